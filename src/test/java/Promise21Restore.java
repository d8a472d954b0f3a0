/** Promise 21: restore. */
public final class Promise21Restore {
  public static void main(String[] args) {
    Due due = new Due();
    everything(due);
    theSlotKeepsIt(due);
    thePadAndTheHistoryStay(due);
    GrooveTurns x = new GrooveTurns();
    x.save(1);
    for (int slot : new int[] {-1, 2, Integer.MIN_VALUE, Integer.MAX_VALUE}) {
      due.error(x, "restore(" + slot + ")", () -> x.restore(slot), GrooveTurns.BAD_VALUE);
    }
    due.error(x, "restore(0)", () -> x.restore(0), GrooveTurns.NOT_POSSIBLE);
    due.is("restore(1)", x.restore(1), 0);
    due.is("count(17): also if nothing is different", x.count(17), 1);
    due.end();
  }

  private static String seen(GrooveTurns x) {
    StringBuilder seen = new StringBuilder(Due.disc(x));
    for (int what = 0; what < 16; what++) seen.append(' ').append(x.count(what));
    return seen.toString();
  }

  private static void everything(Due due) {
    GrooveTurns x = new GrooveTurns();
    int[] values = {6, 2, 9, 2, 3};
    for (int setting = 0; setting < 5; setting++) x.set(setting, values[setting]);
    x.write(20, 1);
    x.write(32, 2);
    x.write(20, 3);
    x.write(20, 4);
    x.read(20);
    x.save(0);
    String saved = seen(x);
    for (int setting = 0; setting < 5; setting++) x.set(setting, 5);
    for (int i = 0; i < 30; i++) x.write(i % 3 * 12 + 8, i);
    x.read(8);
    x.idle(50);
    due.is("it is different now", seen(x).equals(saved) ? 1 : 0, 0);
    due.is("restore(0)", x.restore(0), 2);
    due.same("behind restore(0)", seen(x), saved);
  }

  private static void theSlotKeepsIt(Due due) {
    GrooveTurns x = new GrooveTurns();
    x.write(20, 1);
    x.save(1);
    String saved = seen(x);
    for (int round = 0; round < 9; round++) {
      x.write(20, 2);
      x.write(32, round);
      x.set(GrooveTurns.HEAT, round);
      due.is("restore(1)", x.restore(1), 1);
      due.same("behind restore(1)", seen(x), saved);
    }
    due.is("count(17)", x.count(17), 6);
  }

  private static void thePadAndTheHistoryStay(Due due) {
    GrooveTurns x = new GrooveTurns();
    Due.type(x, "r1;r2");
    x.save(0);
    x.wipe();
    Due.type(x, "r1");
    x.write(1, 1);
    x.write(2, 2);
    due.is("restore(0)", x.restore(0), 0);
    due.is("count(16)", x.count(16), 2);
    due.is("count(17)", x.count(17), 3);
    due.is("undo()", x.undo(), 2);
    due.is("count(9)", x.count(9), 2);
    x.save(0);
    due.is("undo()", x.undo(), 1);
    due.is("count(9)", x.count(9), 1);
    due.is("restore(0)", x.restore(0), 2);
  }
}
