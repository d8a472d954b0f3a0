/** Promise 17: wipe. */
public final class Promise17Wipe {
  public static void main(String[] args) {
    Due due = new Due();
    GrooveTurns x = new GrooveTurns();
    due.is("wipe()", x.wipe(), 0);
    Due.type(x, "w0=1;w2=3");
    due.is("wipe()", x.wipe(), 9);
    due.is("count(16)", x.count(16), 0);
    due.is("wipe()", x.wipe(), 0);
    due.is("fault()", x.fault(), 0);
    due.is("run(true)", x.run(true), GrooveTurns.BAD_TEXT);
    due.is("put", x.put(Due.packed("r5")), 2);
    due.is("fault()", x.fault(), GrooveTurns.NONE);
    due.is("count(17): wipe is no change", x.count(17), 0);
    x.write(5, 5);
    due.is("undo() does not bring the pad back", x.wipe() * 10 + x.undo(), 20);
    due.is("count(16)", x.count(16), 0);
    due.end();
  }
}
