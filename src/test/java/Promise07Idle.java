/** Promise 7: idle, and the sector that is under the head. */
public final class Promise07Idle implements Codes {
  private static final String UNDER = "At the tick t the sector that is left of t by 12 is under the head";

  public static void main(String[] args) {
    Sentences s = new Sentences();
    s.test(7, "Lets ticks pass, without a request.", "the head stays, nothing is read or written", Promise07Idle::passes);
    s.test(7, "This is a change.", "it is recorded, and undone", due -> due.isOneChange(due.fresh(), x -> x.idle(12)));
    s.test(7, "`ticks`: 1 to 9999", "1 is taken", due -> taken(due, 1, 1));
    s.test(7, "`ticks`: 1 to 9999", "9999 is taken", due -> taken(due, 9999, 3));
    s.test(7, "Returns the sector that is under the head then", "11, then 0 again", Promise07Idle::around);
    s.test(7, UNDER, "each of two turns", Promise07Idle::twoTurns);
    s.test(7, UNDER, "whatever track the head is on", Promise07Idle::onEachTrack);
    for (int ticks : new int[] {0, -1, 10000, LEAST, MOST}) {
      s.test(7, "BAD_VALUE if ticks is out of range", ticks + " is refused",
          due -> due.refused(due.busy(), BAD_VALUE, x -> x.idle(ticks)));
    }
    s.end();
  }

  private static void passes(Due due) {
    Run x = due.busy();
    Run y = due.busy();
    int ticks = x.count(TICKS);
    x.idle(120);
    due.is(x.count(TICKS), ticks + 120);
    y.seek(y.count(HEAD));
    due.is(x.count(HEAD), y.count(HEAD));
    for (int what = SPARES; what <= UNDOS; what++) due.is(x.count(what), y.count(what));
    for (int address : new int[] {12, 24, 36}) {
      for (int what = 0; what <= READABLE; what++) due.is(x.sector(address, what), y.sector(address, what));
    }
  }

  private static void taken(Due due, int ticks, int sector) {
    Run x = due.fresh();
    due.is(x.idle(ticks), sector);
    due.is(x.count(TICKS), ticks);
  }

  private static void around(Due due) {
    Run x = due.fresh();
    due.is(x.idle(11), 11);
    due.is(x.count(UNDER_HEAD), 11);
    due.is(x.idle(1), 0);
    due.is(x.count(UNDER_HEAD), 0);
    due.is(x.idle(12), 0);
    due.is(x.idle(13), 1);
  }

  private static void twoTurns(Due due) {
    Run x = due.fresh();
    for (int tick = 1; tick <= 24; tick++) {
      due.is(x.idle(1), tick % 12);
      due.is(x.count(UNDER_HEAD), tick % 12);
    }
  }

  private static void onEachTrack(Due due) {
    Run x = due.fresh();
    x.set(STEP, 5);
    for (int track = 1; track <= 16; track++) {
      x.seek(track);
      due.is(x.count(UNDER_HEAD), 5 * track % 12);
    }
    due.is(x.idle(5), 85 % 12);
  }
}
