/** Promise 1: a new object is an empty disc, the head at the track 0, at the tick 0. */
public final class Promise01New {
  public static void main(String[] args) {
    Due due = new Due();
    GrooveTurns x = new GrooveTurns();
    int[] counts = {4, 1, 30, 20, 2, 0, 0, 0, 12, 0, 0, 0, 0, 0, 0, 0, 0, 0};
    for (int what = 0; what < counts.length; what++) due.is("count(" + what + ")", x.count(what), counts[what]);
    for (int address = 0; address < 192; address++) {
      int[] about = {address / 12, address % 12, GrooveTurns.NONE, 0, 0, 0, 0};
      for (int what = 0; what < 7; what++) {
        due.is("sector(" + address + ", " + what + ")", x.sector(address, what), about[what]);
      }
    }
    for (int track = 0; track <= 16; track++) {
      for (int what = 0; what < 4; what++) due.is("track(" + track + ", " + what + ")", x.track(track, what), 0);
    }
    due.is("worst()", x.worst(), GrooveTurns.NONE);
    due.is("fault()", x.fault(), 0);
    due.is("undo()", x.undo(), GrooveTurns.NOT_POSSIBLE);
    due.is("restore(0)", x.restore(0), GrooveTurns.NOT_POSSIBLE);
    due.is("restore(1)", x.restore(1), GrooveTurns.NOT_POSSIBLE);
    objectsAreApart(due);
    due.end();
  }

  private static void objectsAreApart(Due due) {
    GrooveTurns one = new GrooveTurns();
    GrooveTurns other = new GrooveTurns();
    one.set(GrooveTurns.HEAT, 9);
    one.write(3, 4);
    due.is("other.count(0)", other.count(0), 4);
    due.is("other.count(9)", other.count(9), 0);
    due.is("other.undo()", other.undo(), GrooveTurns.NOT_POSSIBLE);
  }
}
