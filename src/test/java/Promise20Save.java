/** Promise 20: save. */
public final class Promise20Save {
  public static void main(String[] args) {
    Due due = new Due();
    GrooveTurns x = new GrooveTurns();
    due.is("save(0) of an empty disc", x.save(0), 0);
    x.write(1, 1);
    x.write(2, 2);
    x.write(2, 3);
    due.is("save(1)", x.save(1), 2);
    due.is("count(17): it is no change", x.count(17), 3);
    due.is("restore(0)", x.restore(0), 0);
    due.is("restore(1)", x.restore(1), 2);
    due.is("sector(2, 2)", x.sector(2, 2), 3);
    x.write(3, 3);
    due.is("save(1) again", x.save(1), 3);
    due.is("restore(0)", x.restore(0), 0);
    due.is("restore(1): what was there is overwritten", x.restore(1), 3);
    due.is("sector(3, 2)", x.sector(3, 2), 3);
    lostAndSparesCount(due);
    for (int slot : new int[] {-1, 2, Integer.MIN_VALUE, Integer.MAX_VALUE}) {
      due.error(x, "save(" + slot + ")", () -> x.save(slot), GrooveTurns.BAD_VALUE);
    }
    due.end();
  }

  private static void lostAndSparesCount(Due due) {
    GrooveTurns x = new GrooveTurns();
    x.set(GrooveTurns.HEAT, 20);
    x.set(GrooveTurns.LOST, 5);
    x.write(0, 1);
    x.write(12, 1);
    x.set(GrooveTurns.WEAR, 1);
    x.write(12, 1);
    due.is("save(0)", x.save(0), 2);
    due.is("the head and time stay", x.count(6), 16);
  }
}
