/** Promise 6: seek. */
public final class Promise06Seek implements Codes {
  private static final String MOVES = "Moves the head to a track, which takes STEP ticks for each track.";

  public static void main(String[] args) {
    Sentences s = new Sentences();
    s.test(6, MOVES, "forth and back", Promise06Seek::forthAndBack);
    s.test(6, MOVES, "to the track where it is: 0 ticks", Promise06Seek::whereItIs);
    s.test(6, MOVES, "with STEP 0, and with STEP 20", Promise06Seek::leastAndMostStep);
    s.test(6, MOVES, "it is no request: nothing is read or written, no tick is waited", Promise06Seek::noRequest);
    s.test(6, "This is a change.", "it is recorded, and undone", due -> due.isOneChange(due.fresh(), x -> x.seek(5)));
    s.test(6, "This is a change.", "also if it takes 0 ticks", due -> due.isOneChange(due.fresh(), x -> x.seek(0)));
    s.test(6, "Returns the ticks that it takes", "STEP for each track", Promise06Seek::ticks);
    s.test(6, "NO_SUCH if track is not 0 to 16", "0 and 16 are tracks", Promise06Seek::firstAndLastTrack);
    for (int track : new int[] {-1, 17, LEAST, MOST}) {
      s.test(6, "NO_SUCH if track is not 0 to 16", track + " is none",
          due -> due.refused(due.busy(), NO_SUCH, x -> x.seek(track)));
    }
    s.end();
  }

  private static void forthAndBack(Due due) {
    Run x = due.fresh();
    x.seek(9);
    due.is(x.count(HEAD), 9);
    due.is(x.count(TICKS), 18);
    x.seek(4);
    due.is(x.count(HEAD), 4);
    due.is(x.count(TICKS), 28);
    due.is(x.count(UNDER_HEAD), 4);
  }

  private static void whereItIs(Due due) {
    Run x = due.fresh();
    x.seek(9);
    due.is(x.seek(9), 0);
    due.is(x.count(HEAD), 9);
    due.is(x.count(TICKS), 18);
  }

  private static void leastAndMostStep(Due due) {
    Run x = due.fresh();
    x.set(STEP, 0);
    due.is(x.seek(16), 0);
    due.is(x.count(HEAD), 16);
    due.is(x.count(TICKS), 0);
    x.set(STEP, 20);
    due.is(x.seek(0), 320);
    due.is(x.seek(1), 20);
    due.is(x.count(TICKS), 340);
  }

  private static void noRequest(Due due) {
    Run x = due.fresh();
    x.write(24, 1);
    x.seek(0);
    due.is(x.seek(2), 4);
    due.is(x.count(WRITINGS), 1);
    due.is(x.count(READS), 0);
    due.is(x.sector(24, TIMES), 1);
  }

  private static void ticks(Due due) {
    Run x = due.fresh();
    due.is(x.seek(1), 2);
    due.is(x.seek(3), 4);
    due.is(x.seek(2), 2);
    x.set(STEP, 7);
    due.is(x.seek(12), 70);
  }

  private static void firstAndLastTrack(Due due) {
    Run x = due.fresh();
    due.is(x.seek(16), 32);
    due.is(x.count(HEAD), 16);
    due.is(x.seek(0), 32);
    due.is(x.count(HEAD), 0);
  }
}
