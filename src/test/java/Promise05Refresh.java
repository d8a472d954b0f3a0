/** Promise 5: refresh. */
public final class Promise05Refresh implements Codes {
  private static final String AGAIN = "Writes to an address again what it holds, if it can be read: as read() and then write() do it.";
  private static final String NOT = "NOT_POSSIBLE if it holds nothing, or cannot be read";

  public static void main(String[] args) {
    Sentences s = new Sentences();
    s.test(5, AGAIN, "the number stays, the blur goes, what lies beside is heated", Promise05Refresh::ordinary);
    s.test(5, AGAIN, "the number 0", Promise05Refresh::ofTheNumber0);
    s.test(5, AGAIN, "it counts as a read and as a writing, and takes the ticks of both", Promise05Refresh::both);
    s.test(5, AGAIN, "a sector that is worn: read there, and written to the spare", Promise05Refresh::givesASpare);
    s.test(5, AGAIN, "one writing ahead of WEAR there is no spare", Promise05Refresh::oneAheadOfWear);
    s.test(5, AGAIN, "row by row as read() and write() leave the disc", Promise05Refresh::asReadAndWrite);
    s.test(5, "This is a change.", "one alone, undone at once", Promise05Refresh::oneChange);
    s.test(5, "Returns the blur that it had", "0 if it had none", Promise05Refresh::noBlur);
    s.test(5, "Returns the blur that it had", "LOST - 1 at most", Promise05Refresh::mostBlur);
    s.test(5, "Returns the blur that it had", "on the sector that it left for a spare", Promise05Refresh::blurBeforeTheSpare);
    s.test(5, "NO_SUCH if there is no such address", "0 and 191 are addresses", Promise05Refresh::firstAndLastAddress);
    for (int address : new int[] {-1, 192, 203, LEAST, MOST}) {
      s.test(5, "NO_SUCH if there is no such address", address + " is none",
          due -> due.refused(due.busy(), NO_SUCH, x -> x.refresh(address)));
    }
    s.test(5, NOT, "it holds nothing", due -> {
      due.refused(due.fresh(), NOT_POSSIBLE, x -> x.refresh(0));
      due.refused(due.busy(), NOT_POSSIBLE, x -> x.refresh(13));
    });
    s.test(5, NOT, "it cannot be read: it is lost", due -> due.refused(due.busy(), NOT_POSSIBLE, x -> x.refresh(12)));
    s.test(5, NOT, "blur at LOST is refused, below it is taken", Promise05Refresh::edgeOfLost);
    s.end();
  }

  private static void ordinary(Due due) {
    Run x = due.fresh();
    x.write(13, 200);
    x.write(25, 3);
    due.is(x.refresh(13), 4);
    due.is(x.sector(13, HOLDS), 200);
    due.is(x.sector(13, BLUR), 0);
    due.is(x.sector(13, TIMES), 2);
    due.is(x.sector(25, BLUR), 4);
    due.is(x.sector(25, TIMES), 1);
  }

  private static void ofTheNumber0(Due due) {
    Run x = due.fresh();
    x.write(0, 0);
    x.write(12, 0);
    due.is(x.refresh(0), 4);
    due.is(x.sector(0, HOLDS), 0);
    due.is(x.sector(0, BLUR), 0);
    due.is(x.sector(12, BLUR), 4);
  }

  private static void both(Due due) {
    Run x = due.fresh();
    x.write(13, 200);
    x.write(25, 3);
    int ticks = x.count(TICKS);
    x.refresh(13);
    // One track back in 2 ticks, 9 of waiting, 1 for the read; then a turn to the writing.
    due.is(x.count(TICKS), ticks + 12 + 12);
    due.is(x.count(HEAD), 1);
    due.is(x.count(READS), 1);
    due.is(x.count(WRITINGS), 3);
  }

  private static void givesASpare(Due due) {
    Run x = due.fresh();
    x.set(WEAR, 1);
    x.write(48, 8);
    x.write(60, 8);
    int ticks = x.count(TICKS);
    due.is(x.refresh(48), 4);
    due.is(x.sector(48, TRACK), 16);
    due.is(x.sector(48, PLACE), 0);
    due.is(x.sector(48, HOLDS), 8);
    due.is(x.sector(48, TIMES), 1);
    due.is(x.sector(60, BLUR), 0);
    due.is(x.track(4, BLUR_ON), 4);
    due.is(x.count(HEAD), 16);
    // The read takes a turn; from the sector 1 twelve tracks are 24 ticks, then 11 of waiting, and 1.
    due.is(x.count(TICKS), ticks + 12 + 36);
  }

  private static void oneAheadOfWear(Due due) {
    Run x = due.fresh();
    x.set(WEAR, 2);
    x.write(48, 8);
    x.refresh(48);
    due.is(x.sector(48, HAS_SPARE), 0);
    due.is(x.sector(48, TIMES), 2);
    x.refresh(48);
    due.is(x.sector(48, HAS_SPARE), 1);
    due.is(x.sector(48, TIMES), 1);
  }

  private static void asReadAndWrite(Due due) {
    Run one = due.fresh();
    Run other = due.fresh();
    for (Run x : new Run[] {one, other}) {
      x.set(WEAR, 2);
      for (int a : new int[] {40, 52, 64, 52, 41, 53, 52}) x.write(a, a);
    }
    for (int a : new int[] {40, 52, 64, 41, 40, 52, 64, 191, 40}) {
      one.refresh(a);
      other.write(a, other.read(a));
      due.same("behind refresh(" + a + ")", one.disc(), other.disc());
    }
  }

  private static void oneChange(Due due) {
    Run x = due.fresh();
    x.write(13, 200);
    x.write(25, 3);
    due.isOneChange(x, r -> r.refresh(13));
  }

  private static void noBlur(Due due) {
    Run x = due.fresh();
    x.write(13, 200);
    due.is(x.refresh(13), 0);
    due.is(x.refresh(13), 0);
    due.is(x.sector(13, TIMES), 3);
  }

  private static void mostBlur(Due due) {
    Run x = due.fresh();
    x.set(LOST, 99);
    x.set(HEAT, 14);
    x.write(0, 7);
    for (int i = 0; i < 7; i++) x.write(12, 1);
    due.is(x.refresh(0), 98);
    due.is(x.sector(0, BLUR), 0);
  }

  private static void blurBeforeTheSpare(Due due) {
    Run x = due.fresh();
    x.write(0, 7);
    x.write(12, 7);
    x.write(12, 7);
    x.set(WEAR, 1);
    due.is(x.refresh(0), 8);
    due.is(x.refresh(0), 0);
  }

  private static void firstAndLastAddress(Due due) {
    Run x = due.fresh();
    x.write(0, 3);
    x.write(191, 4);
    due.is(x.refresh(0), 0);
    due.is(x.refresh(191), 0);
    due.is(x.sector(0, TIMES), 2);
    due.is(x.sector(191, TIMES), 2);
  }

  private static void edgeOfLost(Due due) {
    Run x = due.fresh();
    x.write(0, 1);
    x.write(12, 1);
    x.write(12, 1);
    x.set(LOST, 8);
    due.refused(x, NOT_POSSIBLE, r -> r.refresh(0));
    x.set(LOST, 9);
    due.is(x.refresh(0), 8);
  }
}
