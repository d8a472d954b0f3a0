/** Promise 12: ticksFor. */
public final class Promise12TicksFor {
  public static void main(String[] args) {
    Due due = new Due();
    GrooveTurns x = new GrooveTurns();
    for (int sector = 0; sector < 12; sector++) {
      due.is("ticksFor(" + sector + ", true)", x.ticksFor(sector, true), sector + 1);
      due.is("ticksFor(" + sector + ", false)", x.ticksFor(sector, false), sector + 1);
    }
    due.is("ticksFor(14, false)", x.ticksFor(14, false), 3);
    due.is("ticksFor(13, false)", x.ticksFor(13, false), 14);
    due.is("ticksFor(191, false)", x.ticksFor(191, false), 30 + 5 + 1);
    x.set(GrooveTurns.STEP, 20);
    due.is("ticksFor(191, false)", x.ticksFor(191, false), 300 + 11 + 1);
    x.set(GrooveTurns.STEP, 2);
    x.seek(8);
    due.is("ticksFor(4, false) back", x.ticksFor(4, false), 16 + 8 + 1);
    ofASpare(due);
    isWhatItTakes(due);
    for (int address : new int[] {-1, 192, Integer.MIN_VALUE, Integer.MAX_VALUE}) {
      due.error(x, "ticksFor(" + address + ", true)", () -> x.ticksFor(address, true), GrooveTurns.NO_SUCH);
      due.error(x, "ticksFor(" + address + ", false)", () -> x.ticksFor(address, false), GrooveTurns.NO_SUCH);
    }
    due.end();
  }

  private static void ofASpare(Due due) {
    GrooveTurns x = new GrooveTurns();
    x.set(GrooveTurns.WEAR, 1);
    x.write(0, 1);
    due.is("ticksFor(0, false)", x.ticksFor(0, false), 12);
    due.is("ticksFor(0, true): to the spare 0 at 33, 36", x.ticksFor(0, true), 32 + 3 + 1);
    due.is("count(8): nothing changes", x.count(8), 12);
    due.is("count(5)", x.count(5), 1);
    for (int i = 0; i < 12; i++) x.write(0, i);
    due.is("count(7)", x.count(7), 0);
    due.is("ticksFor(0, false) of the spare 11", x.ticksFor(0, false), 12);
    due.is("ticksFor(0, true) without a spare left", x.ticksFor(0, true), 12);
  }

  private static void isWhatItTakes(Due due) {
    GrooveTurns x = new GrooveTurns();
    x.set(GrooveTurns.WEAR, 2);
    for (int i = 0; i < 60; i++) {
      int address = i * 37 % 192 % 40;
      int ticks = x.ticksFor(address, true);
      due.is("write(" + address + ", 1)", x.write(address, 1), ticks);
      int before = x.count(5);
      ticks = x.ticksFor(address, false);
      x.read(address);
      due.is("the ticks of read(" + address + ")", x.count(5) - before, ticks);
    }
  }
}
