/** Promise 6: seek. */
public final class Promise06Seek {
  public static void main(String[] args) {
    Due due = new Due();
    GrooveTurns x = new GrooveTurns();
    due.is("seek(0)", x.seek(0), 0);
    due.is("count(17)", x.count(17), 1);
    due.is("seek(16)", x.seek(16), 32);
    due.is("count(6)", x.count(6), 16);
    due.is("count(5)", x.count(5), 32);
    due.is("seek(5)", x.seek(5), 22);
    due.is("count(5)", x.count(5), 54);
    due.is("count(7)", x.count(7), 6);
    x.set(GrooveTurns.STEP, 0);
    due.is("seek(9)", x.seek(9), 0);
    due.is("count(6)", x.count(6), 9);
    x.set(GrooveTurns.STEP, 20);
    due.is("seek(8)", x.seek(8), 20);
    due.is("count(11)", x.count(11), 0);
    due.is("count(12)", x.count(12), 0);
    for (int track : new int[] {-1, 17, Integer.MIN_VALUE, Integer.MAX_VALUE}) {
      due.error(x, "seek(" + track + ")", () -> x.seek(track), GrooveTurns.NO_SUCH);
    }
    due.end();
  }
}
