/** Promise 13: ifRun. */
public final class Promise13IfRun {
  public static void main(String[] args) {
    Due due = new Due();
    GrooveTurns x = new GrooveTurns();
    Due.type(x, "w36=9;w0=4;r37;w12=1");
    String before = Due.look(x);
    // As they stand: 13, 25, (r37 is passed over), at 27 the track 1, 36, 37. By tracks: 1, 13, 25.
    due.is("ifRun(false)", x.ifRun(false), 37);
    due.is("ifRun(true)", x.ifRun(true), 25);
    due.same("behind ifRun", Due.look(x), before);
    x.idle(100);
    before = Due.look(x);
    isWhatRunTakes(due, x, true);
    due.is("undo()", x.undo(), 1);
    spares(due);
    GrooveTurns y = new GrooveTurns();
    due.error(y, "ifRun(true)", () -> y.ifRun(true), GrooveTurns.BAD_TEXT);
    Due.type(y, "w1=1;r");
    due.error(y, "ifRun(false)", () -> y.ifRun(false), GrooveTurns.BAD_TEXT);
    y.put('1');
    due.is("ifRun(false)", y.ifRun(false), 2 + 12);
    due.end();
  }

  private static void isWhatRunTakes(Due due, GrooveTurns x, boolean isByTracks) {
    int told = x.ifRun(isByTracks);
    int ticks = x.count(5);
    x.run(isByTracks);
    due.is("the ticks of run(" + isByTracks + ")", x.count(5) - ticks, told);
  }

  private static void spares(Due due) {
    for (boolean isByTracks : new boolean[] {true, false}) {
      GrooveTurns x = new GrooveTurns();
      x.set(GrooveTurns.WEAR, 1);
      Due.type(x, "w5=1;w50=2;r50;w5=1;r5;w50=3;w3=3;w5=2;r50;r4");
      isWhatRunTakes(due, x, isByTracks);
      due.is("count(8)", x.count(8), 9);
    }
  }
}
