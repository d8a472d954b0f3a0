/**
 * The error TOO_MANY of the promises 3 to 8: no call may end above the tick 9999999.
 * 512 calls do not come so far, so these runs are longer than what is promised of an object.
 */
public final class MostTicks {
  public static void main(String[] args) {
    Due due = new Due();
    GrooveTurns x = new GrooveTurns();
    x.write(0, 5);
    x.write(12, 6);
    while (x.count(5) + 9999 <= 9999960) x.idle(9999);
    while (x.count(5) < 9999960) x.idle(1);
    // At 9999960 the sector 0 is under the head.
    x.seek(0);
    x.idle(9999984 - x.count(5));
    refreshNeedsBoth(due, x);
    atTheLastTick(due, x);
    due.end();
  }

  private static void refreshNeedsBoth(Due due, GrooveTurns x) {
    due.is("count(7)", x.count(7), 0);
    x.idle(11);
    // At 9999995 the sector 11 is under the head: read(0) takes 2 ticks, the writing 12 more.
    due.error(x, "refresh(0)", () -> x.refresh(0), GrooveTurns.TOO_MANY);
    due.is("ticksFor(0, false)", x.ticksFor(0, false), 2);
    due.error(x, "seek(3)", () -> x.seek(3), GrooveTurns.TOO_MANY);
    due.is("seek(2)", x.seek(2), 4);
    due.is("undo()", x.undo(), 5);
    due.error(x, "idle(5)", () -> x.idle(5), GrooveTurns.TOO_MANY);
    due.is("idle(4)", x.idle(4), 3);
    due.is("undo()", x.undo(), 5);
    Due.type(x, "w4=1;w3=2;r0;w9=1;w2=3");
    // w4 would end at 10000001, w3 at 10000000; r0 ends at 9999997, w9 is passed over, w2 ends at 9999999.
    due.is("ifRun(false)", x.ifRun(false), 4);
    due.is("run(false)", x.run(false), 2);
    due.is("sector(2, 2)", x.sector(2, 2), 3);
    due.is("sector(3, 2)", x.sector(3, 2), GrooveTurns.NONE);
  }

  private static void atTheLastTick(Due due, GrooveTurns x) {
    due.is("count(5)", x.count(5), 9999999);
    due.error(x, "write(0, 1)", () -> x.write(0, 1), GrooveTurns.TOO_MANY);
    due.error(x, "write(0, 256)", () -> x.write(0, 256), GrooveTurns.BAD_VALUE);
    due.error(x, "read(0)", () -> x.read(0), GrooveTurns.TOO_MANY);
    due.error(x, "read(1)", () -> x.read(1), GrooveTurns.NOT_POSSIBLE);
    due.error(x, "refresh(0)", () -> x.refresh(0), GrooveTurns.TOO_MANY);
    due.error(x, "refresh(1)", () -> x.refresh(1), GrooveTurns.NOT_POSSIBLE);
    due.error(x, "seek(1)", () -> x.seek(1), GrooveTurns.TOO_MANY);
    due.is("seek(0)", x.seek(0), 0);
    due.error(x, "idle(1)", () -> x.idle(1), GrooveTurns.TOO_MANY);
    due.is("ticksFor(0, false)", x.ticksFor(0, false), 10);
    Due.type(x, "r0;w0=1");
    due.is("ifRun(true)", x.ifRun(true), 0);
    due.is("run(true)", x.run(true), 0);
    due.is("count(16)", x.count(16), 0);
  }
}
