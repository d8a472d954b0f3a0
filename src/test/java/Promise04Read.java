/** Promise 4: read. */
public final class Promise04Read implements Codes {
  private static final String BELOW = "A sector that holds something can be read, if its blur is below LOST.";
  private static final String NOT = "NOT_POSSIBLE if it holds nothing, or cannot be read";

  public static void main(String[] args) {
    Sentences s = new Sentences();
    s.test(4, "Reads an address.", "it clears no blur, heats nothing, and wears nothing", Promise04Read::changesNoSector);
    s.test(4, "Reads an address.", "that has a spare: on the spare", Promise04Read::onASpare);
    s.test(4, "Reads an address.", "a read gives no spare, also of a sector that is worn", Promise04Read::givesNoSpare);
    s.test(4, "This is a change (the head moves).", "to the track of the sector", Promise04Read::headMoves);
    s.test(4, "This is a change (the head moves).", "it is recorded, and undone", Promise04Read::oneChange);
    s.test(4, "Returns the number that it holds", "0 and 255", Promise04Read::theNumber);
    s.test(4, "NO_SUCH if there is no such address", "0 and 191 are addresses", Promise04Read::firstAndLastAddress);
    for (int address : new int[] {-1, 192, 203, LEAST, MOST}) {
      s.test(4, "NO_SUCH if there is no such address", address + " is none",
          due -> due.refused(due.busy(), NO_SUCH, x -> x.read(address)));
    }
    s.test(4, NOT, "it holds nothing: on a new disc, and beside what is written", Promise04Read::nothing);
    s.test(4, NOT, "it cannot be read: it is lost", due -> due.refused(due.busy(), NOT_POSSIBLE, x -> x.read(12)));
    s.test(4, NOT, "it holds nothing, and LOST is 5", Promise04Read::nothingAndLeastLost);
    s.test(4, BELOW, "at LOST - 1 by heat", due -> byHeat(due, 9, 1));
    s.test(4, BELOW, "at LOST by heat", due -> byHeat(due, 8, 0));
    s.test(4, BELOW, "at LOST + 1 by heat", due -> byHeat(due, 7, 0));
    s.test(4, BELOW, "when LOST is set to the blur and back", Promise04Read::bySetting);
    s.test(4, BELOW, "LOST 5: 4 can be read, 5 cannot", due -> atEnds(due, 5, 4));
    s.test(4, BELOW, "LOST 99: 98 can be read, 99 cannot", due -> atEnds(due, 99, 14));
    s.test(4, BELOW, "rewriting what is lost clears it", Promise04Read::rewritten);
    s.end();
  }

  private static void changesNoSector(Due due) {
    Run x = due.fresh();
    x.write(12, 7);
    x.write(24, 8);
    x.write(0, 9);
    due.is(x.read(12), 7);
    due.is(x.read(12), 7);
    due.is(x.sector(12, BLUR), 8);
    due.is(x.sector(12, TIMES), 1);
    due.is(x.sector(24, BLUR), 1);
    due.is(x.sector(0, BLUR), 0);
    due.is(x.count(WRITINGS), 3);
    due.is(x.count(READS), 2);
  }

  private static void onASpare(Due due) {
    Run x = due.fresh();
    x.set(WEAR, 1);
    x.write(0, 1);
    x.write(0, 2);
    x.seek(0);
    due.is(x.read(0), 2);
    due.is(x.count(HEAD), 16);
  }

  private static void givesNoSpare(Due due) {
    Run x = due.fresh();
    x.set(WEAR, 1);
    x.write(0, 1);
    due.is(x.read(0), 1);
    due.is(x.count(SPARES), 12);
    due.is(x.sector(0, HAS_SPARE), 0);
    due.is(x.count(HEAD), 0);
  }

  private static void headMoves(Due due) {
    Run x = due.fresh();
    x.write(30, 1);
    x.write(186, 2);
    int ticks = x.count(TICKS);
    // Thirteen tracks back are 26 ticks, two more than two turns: from the sector 7 to the sector 9, then to 6.
    due.is(x.read(30), 1);
    due.is(x.count(HEAD), 2);
    due.is(x.count(TICKS), ticks + 26 + 9 + 1);
    due.is(x.count(UNDER_HEAD), 7);
    due.is(x.read(30), 1);
    due.is(x.count(TICKS), ticks + 36 + 12);
  }

  private static void oneChange(Due due) {
    Run x = due.fresh();
    x.write(30, 1);
    x.seek(9);
    due.isOneChange(x, r -> r.read(30));
  }

  private static void theNumber(Due due) {
    Run x = due.fresh();
    x.write(30, 0);
    x.write(31, 255);
    due.is(x.read(30), 0);
    due.is(x.read(31), 255);
    due.is(x.count(READS), 2);
  }

  private static void firstAndLastAddress(Due due) {
    Run x = due.fresh();
    x.write(0, 3);
    x.write(191, 4);
    due.is(x.read(0), 3);
    due.is(x.read(191), 4);
  }

  private static void nothing(Due due) {
    Run x = due.fresh();
    due.refused(x, NOT_POSSIBLE, r -> r.read(0));
    x.write(0, 1);
    for (int address : new int[] {1, 11, 12, 24, 191}) due.refused(x, NOT_POSSIBLE, r -> r.read(address));
    due.refused(due.busy(), NOT_POSSIBLE, r -> r.read(0));
  }

  private static void nothingAndLeastLost(Due due) {
    Run x = due.fresh();
    x.set(LOST, 5);
    due.refused(x, NOT_POSSIBLE, r -> r.read(7));
  }

  /** 0 has the blur 8. */
  private static void byHeat(Due due, int lost, int isReadable) {
    Run x = due.fresh();
    x.set(LOST, lost);
    x.write(0, 7);
    x.write(12, 8);
    x.write(12, 8);
    due.is(x.sector(0, BLUR), 8);
    due.is(x.sector(0, READABLE), isReadable);
    if (isReadable == 1) due.is(x.read(0), 7);
    else due.refused(x, NOT_POSSIBLE, r -> r.read(0));
  }

  private static void bySetting(Due due) {
    Run x = due.fresh();
    x.write(0, 7);
    x.write(12, 8);
    x.write(12, 8);
    due.is(x.read(0), 7);
    x.set(LOST, 8);
    due.refused(x, NOT_POSSIBLE, r -> r.read(0));
    x.set(LOST, 9);
    due.is(x.read(0), 7);
  }

  private static void atEnds(Due due, int lost, int heat) {
    Run x = due.fresh();
    x.set(LOST, lost);
    x.set(HEAT, heat);
    x.write(0, 7);
    for (int blur = heat; blur < lost; blur += heat) x.write(12, 8);
    due.is(x.sector(0, BLUR), lost - 1);
    due.is(x.read(0), 7);
    x.set(HEAT, 1);
    x.write(12, 8);
    due.is(x.sector(0, BLUR), lost);
    due.refused(x, NOT_POSSIBLE, r -> r.read(0));
  }

  private static void rewritten(Due due) {
    Run x = due.busy();
    due.is(x.read(12), NOT_POSSIBLE);
    x.write(12, 77);
    due.is(x.read(12), 77);
  }
}
