/** Promise 10: track. */
public final class Promise10Track {
  public static void main(String[] args) {
    Due due = new Due();
    GrooveTurns x = new GrooveTurns();
    x.set(GrooveTurns.LOST, 9);
    x.set(GrooveTurns.WEAR, 3);
    x.write(24, 1);
    x.write(25, 1);
    x.write(35, 1);
    x.write(36, 1);
    x.write(36, 1);
    x.write(47, 1);
    about(due, x, 2, 3, 0, 4 + 4 + 4, 3);
    about(due, x, 3, 2, 0, 0, 3);
    x.write(36, 1);
    about(due, x, 2, 3, 1, 16, 3);
    about(due, x, 3, 2, 0, 0, 4);
    due.is("sector(24, 3)", x.sector(24, 3), 12);
    // 36 goes to a spare; its old sector counts in the writings, and later blur does not come to it.
    x.write(36, 2);
    about(due, x, 3, 1, 0, 0, 4);
    about(due, x, 16, 1, 0, 0, 1);
    x.write(24, 1);
    about(due, x, 3, 1, 0, 0, 4);
    about(due, x, 2, 3, 0, 4, 4);
    blurOfSectorsInUseNoMore(due);
    spareTrack(due);
    for (int track : new int[] {-1, 17, Integer.MIN_VALUE, Integer.MAX_VALUE}) {
      due.error(x, "track(" + track + ", 0)", () -> x.track(track, 0), GrooveTurns.NO_SUCH);
      due.error(x, "track(" + track + ", 4)", () -> x.track(track, 4), GrooveTurns.NO_SUCH);
    }
    for (int what : new int[] {-1, 4, Integer.MIN_VALUE, Integer.MAX_VALUE}) {
      due.error(x, "track(16, " + what + ")", () -> x.track(16, what), GrooveTurns.BAD_VALUE);
    }
    due.end();
  }

  private static void blurOfSectorsInUseNoMore(Due due) {
    GrooveTurns x = new GrooveTurns();
    x.set(GrooveTurns.LOST, 5);
    x.write(48, 1);
    x.write(60, 1);
    x.write(60, 1);
    about(due, x, 4, 1, 1, 8, 1);
    x.set(GrooveTurns.WEAR, 1);
    x.write(48, 2);
    about(due, x, 4, 0, 0, 8, 1);
    about(due, x, 16, 1, 0, 0, 1);
    x.set(GrooveTurns.WEAR, 99);
    x.write(60, 1);
    about(due, x, 4, 0, 0, 8, 1);
  }

  private static void spareTrack(Due due) {
    GrooveTurns x = new GrooveTurns();
    x.set(GrooveTurns.WEAR, 1);
    for (int i = 0; i < 20; i++) x.write(191, i);
    about(due, x, 15, 0, 0, 0, 1);
    about(due, x, 16, 1, 0, 0, 19);
  }

  private static void about(Due due, GrooveTurns x, int track, int... wants) {
    for (int what = 0; what < wants.length; what++) {
      due.is("track(" + track + ", " + what + ")", x.track(track, what), wants[what]);
    }
  }
}
