/** Promise 15: worst. */
public final class Promise15Worst {
  public static void main(String[] args) {
    Due due = new Due();
    GrooveTurns x = new GrooveTurns();
    due.is("worst()", x.worst(), GrooveTurns.NONE);
    x.write(191, 1);
    due.is("worst() with no blur", x.worst(), 191);
    x.write(5, 1);
    due.is("worst() of two with no blur", x.worst(), 5);
    x.write(29, 1);
    due.is("worst()", x.worst(), 5);
    x.write(41, 1);
    // 5: FAR 1; 29: HEAT 4; 41: 0.
    due.is("worst()", x.worst(), 29);
    x.write(30, 1);
    x.write(42, 1);
    due.is("worst() of two with 4", x.worst(), 29);
    x.write(42, 1);
    due.is("worst()", x.worst(), 30);
    x.set(GrooveTurns.LOST, 8);
    due.is("worst() that can be read", x.worst(), 29);
    x.set(GrooveTurns.LOST, 9);
    due.is("worst()", x.worst(), 30);
    due.is("count(17): it is no change", x.count(17), 6);
    allLost(due);
    spare(due);
    due.end();
  }

  private static void allLost(Due due) {
    GrooveTurns x = new GrooveTurns();
    x.set(GrooveTurns.HEAT, 20);
    x.set(GrooveTurns.LOST, 5);
    x.write(0, 1);
    x.write(24, 1);
    x.write(12, 1);
    due.is("worst()", x.worst(), 12);
    x.write(0, 1);
    x.set(GrooveTurns.HEAT, 0);
    x.set(GrooveTurns.FAR, 0);
    due.is("worst()", x.worst(), 0);
    x.set(GrooveTurns.FAR, 20);
    x.write(24, 1);
    due.is("worst()", x.worst(), 24);
    x.set(GrooveTurns.LOST, 99);
    due.is("worst() of two with 20", x.worst(), 0);
  }

  private static void spare(Due due) {
    GrooveTurns x = new GrooveTurns();
    x.write(0, 1);
    x.write(12, 1);
    x.set(GrooveTurns.WEAR, 1);
    due.is("worst()", x.worst(), 0);
    x.write(0, 1);
    x.write(12, 2);
    due.is("worst() on spares", x.worst(), 0);
    x.set(GrooveTurns.WEAR, 99);
    x.write(100, 1);
    x.write(112, 1);
    due.is("worst()", x.worst(), 100);
  }
}
