/** Promise 7: idle. */
public final class Promise07Idle {
  public static void main(String[] args) {
    Due due = new Due();
    GrooveTurns x = new GrooveTurns();
    x.seek(3);
    due.is("idle(1)", x.idle(1), 7);
    due.is("idle(5)", x.idle(5), 0);
    due.is("idle(9999)", x.idle(9999), 3);
    due.is("count(5)", x.count(5), 10011);
    due.is("count(6)", x.count(6), 3);
    due.is("count(7)", x.count(7), 3);
    due.is("count(17)", x.count(17), 4);
    for (int ticks : new int[] {0, -1, 10000, Integer.MIN_VALUE, Integer.MAX_VALUE}) {
      due.error(x, "idle(" + ticks + ")", () -> x.idle(ticks), GrooveTurns.BAD_VALUE);
    }
    due.end();
  }
}
