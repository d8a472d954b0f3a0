/** Promise 14: untilLost. */
public final class Promise14UntilLost {
  public static void main(String[] args) {
    Due due = new Due();
    GrooveTurns x = new GrooveTurns();
    x.write(48, 1);
    due.is("untilLost(60, 48): 4 at a time", x.untilLost(60, 48), 8);
    due.is("untilLost(36, 48)", x.untilLost(36, 48), 8);
    due.is("untilLost(24, 48): 1 at a time, 20 at most", x.untilLost(24, 48), GrooveTurns.NONE);
    due.is("untilLost(61, 48)", x.untilLost(61, 48), GrooveTurns.NONE);
    due.is("untilLost(84, 48)", x.untilLost(84, 48), GrooveTurns.NONE);
    due.is("untilLost(49, 48)", x.untilLost(49, 48), GrooveTurns.NONE);
    due.is("untilLost(12, 48): three away", x.untilLost(12, 48), GrooveTurns.NONE);
    String before = Due.look(x);
    x.untilLost(60, 48);
    due.same("behind untilLost", Due.look(x), before);
    wear(due);
    withoutSpares(due);
    errors(due);
    due.end();
  }

  private static void wear(Due due) {
    GrooveTurns x = new GrooveTurns();
    x.write(48, 1);
    x.set(GrooveTurns.WEAR, 8);
    due.is("8 writings are borne", x.untilLost(60, 48), 8);
    x.set(GrooveTurns.WEAR, 7);
    due.is("7 writings are borne", x.untilLost(60, 48), GrooveTurns.NONE);
    x.write(60, 1);
    x.set(GrooveTurns.WEAR, 8);
    due.is("7 of 8 left, and 7 are needed", x.untilLost(60, 48), 7);
    due.is("sector(48, 3)", x.sector(48, 3), 4);
    for (int i = 0; i < 6; i++) x.write(60, 1);
    due.is("sector(48, 3)", x.sector(48, 3), 28);
    due.is("1 of 8 left, and 1 is needed", x.untilLost(60, 48), 1);
    x.set(GrooveTurns.WEAR, 7);
    due.is("it goes to a spare at once", x.untilLost(60, 48), GrooveTurns.NONE);
    x.write(60, 1);
    x.set(GrooveTurns.WEAR, 99);
    due.is("it is on a spare", x.untilLost(60, 48), GrooveTurns.NONE);
    x.set(GrooveTurns.WEAR, 1);
    x.write(48, 1);
    x.set(GrooveTurns.WEAR, 99);
    due.is("the other is on a spare", x.untilLost(36, 48), GrooveTurns.NONE);
  }

  private static void withoutSpares(Due due) {
    GrooveTurns x = new GrooveTurns();
    x.set(GrooveTurns.WEAR, 1);
    for (int i = 0; i <= 12; i++) x.write(190, 1);
    x.write(48, 1);
    x.write(60, 1);
    x.set(GrooveTurns.LOST, 99);
    x.set(GrooveTurns.HEAT, 1);
    due.is("sector(48, 3)", x.sector(48, 3), 4);
    due.is("no spare is left, so it is written on", x.untilLost(60, 48), 95);
    x.set(GrooveTurns.HEAT, 0);
    due.is("without heat", x.untilLost(60, 48), GrooveTurns.NONE);
    due.is("far", x.untilLost(24, 48), 95);
  }

  private static void errors(Due due) {
    GrooveTurns x = new GrooveTurns();
    x.write(0, 1);
    x.write(12, 1);
    x.write(12, 1);
    for (int bad : new int[] {-1, 192, Integer.MIN_VALUE, Integer.MAX_VALUE}) {
      due.error(x, "untilLost(" + bad + ", 0)", () -> x.untilLost(bad, 0), GrooveTurns.NO_SUCH);
      due.error(x, "untilLost(0, " + bad + ")", () -> x.untilLost(0, bad), GrooveTurns.NO_SUCH);
      due.error(x, "untilLost(bad, bad)", () -> x.untilLost(bad, bad), GrooveTurns.NO_SUCH);
    }
    due.error(x, "untilLost(0, 0)", () -> x.untilLost(0, 0), GrooveTurns.BAD_VALUE);
    due.error(x, "untilLost(5, 5) of nothing", () -> x.untilLost(5, 5), GrooveTurns.BAD_VALUE);
    due.error(x, "untilLost(0, 5) of nothing", () -> x.untilLost(0, 5), GrooveTurns.NOT_POSSIBLE);
    x.set(GrooveTurns.LOST, 8);
    due.error(x, "untilLost(12, 0) of what is lost", () -> x.untilLost(12, 0), GrooveTurns.NOT_POSSIBLE);
    x.set(GrooveTurns.LOST, 9);
    due.is("untilLost(12, 0)", x.untilLost(12, 0), 1);
  }
}
