/** Promise 9: sector. */
public final class Promise09Sector {
  public static void main(String[] args) {
    Due due = new Due();
    GrooveTurns x = new GrooveTurns();
    x.set(GrooveTurns.WEAR, 2);
    x.set(GrooveTurns.LOST, 8);
    x.write(100, 0);
    x.write(112, 255);
    x.write(112, 254);
    about(due, x, 100, 8, 4, 0, 8, 1, 0, 0);
    about(due, x, 112, 9, 4, 254, 0, 2, 0, 1);
    x.write(112, 253);
    about(due, x, 112, 16, 0, 253, 0, 1, 1, 1);
    x.write(100, 9);
    x.write(100, 10);
    about(due, x, 100, 16, 1, 10, 0, 1, 1, 1);
    about(due, x, 191, 15, 11, GrooveTurns.NONE, 0, 0, 0, 0);
    x.write(191, 1);
    about(due, x, 191, 15, 11, 1, 0, 1, 0, 1);
    x.write(191, 1);
    x.write(191, 2);
    about(due, x, 191, 16, 2, 2, 0, 1, 1, 1);
    for (int address : new int[] {-1, 192, 203, Integer.MIN_VALUE, Integer.MAX_VALUE}) {
      due.error(x, "sector(" + address + ", 0)", () -> x.sector(address, 0), GrooveTurns.NO_SUCH);
      due.error(x, "sector(" + address + ", 7)", () -> x.sector(address, 7), GrooveTurns.NO_SUCH);
    }
    for (int what : new int[] {-1, 7, Integer.MIN_VALUE, Integer.MAX_VALUE}) {
      due.error(x, "sector(0, " + what + ")", () -> x.sector(0, what), GrooveTurns.BAD_VALUE);
    }
    due.is("count(17): it is no change", x.count(17), 6);
    due.end();
  }

  private static void about(Due due, GrooveTurns x, int address, int... wants) {
    for (int what = 0; what < wants.length; what++) {
      due.is("sector(" + address + ", " + what + ")", x.sector(address, what), wants[what]);
    }
  }
}
