/** Promise 4: read. */
public final class Promise04Read {
  public static void main(String[] args) {
    Due due = new Due();
    GrooveTurns x = new GrooveTurns();
    x.write(30, 0);
    x.write(18, 255);
    int ticks = x.count(5);
    due.is("read(30)", x.read(30), 0);
    due.is("count(5)", x.count(5), ticks + 12);
    due.is("count(6)", x.count(6), 2);
    due.is("read(18)", x.read(18), 255);
    due.is("count(6)", x.count(6), 1);
    due.is("count(12)", x.count(12), 2);
    due.is("count(17)", x.count(17), 4);
    due.is("count(11)", x.count(11), 2);
    due.is("a read clears no blur", x.sector(30, 3), 4);
    due.is("a read heats nothing", x.track(1, 2), 0);
    theEdgeOfBlur(due);
    ofASpare(due);
    errors(due, x);
    due.end();
  }

  private static void theEdgeOfBlur(Due due) {
    GrooveTurns x = new GrooveTurns();
    x.write(0, 7);
    x.write(12, 8);
    x.write(12, 8);
    x.set(GrooveTurns.LOST, 9);
    due.is("read(0) below LOST", x.read(0), 7);
    x.set(GrooveTurns.LOST, 8);
    due.error(x, "read(0) at LOST", () -> x.read(0), GrooveTurns.NOT_POSSIBLE);
    x.set(GrooveTurns.LOST, 7);
    due.error(x, "read(0) above LOST", () -> x.read(0), GrooveTurns.NOT_POSSIBLE);
    due.is("count(12)", x.count(12), 1);
    due.is("count(6)", x.count(6), 0);
  }

  private static void ofASpare(Due due) {
    GrooveTurns x = new GrooveTurns();
    x.set(GrooveTurns.WEAR, 1);
    x.write(0, 1);
    x.write(0, 2);
    x.seek(0);
    due.is("read(0) from the spare", x.read(0), 2);
    due.is("count(6)", x.count(6), 16);
    due.is("a read gives no spare", x.count(8), 11);
  }

  private static void errors(Due due, GrooveTurns x) {
    for (int address : new int[] {-1, 192, Integer.MIN_VALUE, Integer.MAX_VALUE}) {
      due.error(x, "read(" + address + ")", () -> x.read(address), GrooveTurns.NO_SUCH);
    }
    due.error(x, "read(0)", () -> x.read(0), GrooveTurns.NOT_POSSIBLE);
  }
}
