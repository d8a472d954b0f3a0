/** Promise 19: undo. */
public final class Promise19Undo {
  public static void main(String[] args) {
    Due due = new Due();
    eachChange(due);
    sixStates(due);
    thePadAndTheSlotsStay(due);
    errorsAndLooksAreNotRecorded(due);
    overAndOver(due);
    due.end();
  }

  private static void eachChange(Due due) {
    GrooveTurns x = new GrooveTurns();
    x.set(GrooveTurns.WEAR, 1);
    x.write(20, 1);
    x.write(32, 1);
    x.save(1);
    while (x.undo() > 0) { }
    x.restore(1);
    for (int call = 0; call < 8; call++) {
      if (call == 6) Due.type(x, "w20=3;w8=1;r32");
      int undos = x.count(17);
      String before = seen(x);
      change(x, call);
      due.is("count(17) behind the change " + call, x.count(17), undos + 1);
      if (call < 7) due.is("the change " + call + " is one", seen(x).equals(before) ? 0 : 1, 1);
      due.is("undo()", x.undo(), undos);
      due.same("undo() of the change " + call, seen(x), before);
    }
  }

  private static void change(GrooveTurns x, int call) {
    switch (call) {
      case 0: x.set(GrooveTurns.LOST, 50); break;
      case 1: x.write(20, 2); break;
      case 2: x.read(32); break;
      case 3: x.refresh(20); break;
      case 4: x.seek(5); break;
      case 5: x.idle(100); break;
      case 6: x.run(true); break;
      default: x.restore(1); break;
    }
  }

  private static String seen(GrooveTurns x) {
    StringBuilder seen = new StringBuilder(Due.disc(x));
    for (int what = 0; what < 16; what++) seen.append(' ').append(x.count(what));
    return seen.toString();
  }

  private static void sixStates(Due due) {
    GrooveTurns x = new GrooveTurns();
    for (int i = 1; i <= 9; i++) {
      x.write(i, i);
      due.is("count(17)", x.count(17), Math.min(6, i));
    }
    for (int i = 9; i >= 4; i--) {
      due.is("undo()", x.undo(), i - 4);
      due.is("sector(" + i + ", 2)", x.sector(i, 2), GrooveTurns.NONE);
      due.is("sector(" + (i - 1) + ", 2)", x.sector(i - 1, 2), i - 1);
      due.is("count(9)", x.count(9), i - 1);
    }
    due.error(x, "undo()", () -> x.undo(), GrooveTurns.NOT_POSSIBLE);
    due.is("count(9)", x.count(9), 3);
    x.write(50, 50);
    due.is("undo()", x.undo(), 0);
    due.is("sector(50, 2)", x.sector(50, 2), GrooveTurns.NONE);
    due.is("undo()", x.undo(), GrooveTurns.NOT_POSSIBLE);
  }

  private static void thePadAndTheSlotsStay(Due due) {
    GrooveTurns x = new GrooveTurns();
    x.write(1, 1);
    x.write(2, 2);
    x.save(0);
    Due.type(x, "r1");
    due.is("undo()", x.undo(), 1);
    due.is("count(16)", x.count(16), 2);
    due.is("restore(0)", x.restore(0), 2);
    due.is("sector(2, 2)", x.sector(2, 2), 2);
    due.is("run(false)", x.run(false), 1);
    due.is("undo()", x.undo(), 2);
    due.is("count(16): undo of a run does not fill the pad", x.count(16), 0);
    due.is("undo() of restore", x.undo(), 1);
    due.is("sector(2, 2)", x.sector(2, 2), GrooveTurns.NONE);
  }

  private static void errorsAndLooksAreNotRecorded(Due due) {
    GrooveTurns x = new GrooveTurns();
    x.write(1, 1);
    int[] answers = {
      x.set(0, 21), x.write(192, 1), x.write(1, 256), x.read(2), x.refresh(2), x.seek(17), x.idle(0),
      x.run(true), x.restore(0), x.restore(2), x.save(2),
    };
    for (int answer : answers) due.is("an error", answer < 0 ? 1 : 0, 1);
    x.save(0);
    Due.type(x, "r1");
    x.ifRun(true);
    x.untilLost(13, 1);
    x.ticksFor(5, true);
    x.worst();
    x.wipe();
    due.is("count(17)", x.count(17), 1);
    due.is("undo()", x.undo(), 0);
    due.is("count(9)", x.count(9), 0);
  }

  private static void overAndOver(Due due) {
    GrooveTurns x = new GrooveTurns();
    for (int round = 0; round < 20; round++) {
      for (int i = 0; i < 4; i++) x.write(round, 10 * round % 200 + i);
      x.undo();
      x.undo();
      due.is("sector(" + round + ", 2)", x.sector(round, 2), 10 * round % 200 + 1);
      due.is("sector(" + round + ", 4)", x.sector(round, 4), 2);
      due.is("count(11)", x.count(11), 2 * round + 2);
      due.is("count(17)", x.count(17), round == 0 ? 2 : 4);
    }
  }
}
