/** Promise 2: set. */
public final class Promise02Set {
  private static final int[] LOWEST = {0, 0, 5, 1, 0};
  private static final int[] HIGHEST = {20, 20, 99, 99, 20};
  private static final int[] FIRST = {4, 1, 30, 20, 2};

  public static void main(String[] args) {
    Due due = new Due();
    for (int setting = 0; setting < 5; setting++) {
      GrooveTurns x = new GrooveTurns();
      String call = "set(" + setting + ", ..)";
      final int s = setting;
      due.is(call + " lowest", x.set(s, LOWEST[s]), FIRST[s]);
      due.is("count of it", x.count(s), LOWEST[s]);
      due.is(call + " highest", x.set(s, HIGHEST[s]), LOWEST[s]);
      due.is("count of it", x.count(s), HIGHEST[s]);
      due.is(call + " the same", x.set(s, HIGHEST[s]), HIGHEST[s]);
      due.is("count(17)", x.count(17), 3);
      for (int other = 0; other < 5; other++) {
        if (other != s) due.is("count(" + other + ")", x.count(other), FIRST[other]);
      }
      int[] bad = {LOWEST[s] - 1, HIGHEST[s] + 1, Integer.MIN_VALUE, Integer.MAX_VALUE};
      for (int value : bad) due.error(x, "set(" + s + ", " + value + ")", () -> x.set(s, value), GrooveTurns.BAD_VALUE);
    }
    GrooveTurns x = new GrooveTurns();
    for (int setting : new int[] {-1, 5, Integer.MIN_VALUE, Integer.MAX_VALUE}) {
      for (int value : new int[] {0, 5, 20}) {
        due.error(x, "set(" + setting + ", " + value + ")", () -> x.set(setting, value), GrooveTurns.BAD_VALUE);
      }
    }
    theSettingsWork(due);
    due.end();
  }

  private static void theSettingsWork(Due due) {
    GrooveTurns x = new GrooveTurns();
    x.write(24, 1);
    x.write(36, 1);
    due.is("blur beside", x.sector(24, 3), 4);
    x.set(GrooveTurns.HEAT, 10);
    x.write(36, 2);
    due.is("blur beside", x.sector(24, 3), 14);
    x.set(GrooveTurns.FAR, 7);
    x.write(48, 2);
    due.is("blur two away", x.sector(24, 3), 21);
    x.set(GrooveTurns.LOST, 21);
    due.is("sector(24, 6)", x.sector(24, 6), 0);
    x.set(GrooveTurns.LOST, 22);
    due.is("sector(24, 6)", x.sector(24, 6), 1);
    x.set(GrooveTurns.WEAR, 1);
    due.is("write(24, 5) to a spare", x.write(24, 5) > 0 ? x.sector(24, 0) : -9, 16);
    x.set(GrooveTurns.STEP, 20);
    due.is("seek(0)", x.seek(0), 320);
  }
}
