/** Promise 16: put. */
public final class Promise16Put {
  public static void main(String[] args) {
    Due due = new Due();
    GrooveTurns x = new GrooveTurns();
    due.is("put(one)", x.put('w'), 1);
    due.is("put(eight)", x.put(Due.packed("191=255;")), 9);
    due.is("put(two)", x.put(Due.packed("r0")), 11);
    due.is("fault(): the order is kept", x.fault(), GrooveTurns.NONE);
    due.is("run(false)", x.run(false), 1);
    due.is("sector(191, 2)", x.sector(191, 2), 255);
    due.is("count(17): put is no change", x.count(17), 1);
    codes(due);
    zeros(due);
    length(due);
    due.end();
  }

  private static void codes(Due due) {
    GrooveTurns x = new GrooveTurns();
    due.is("put(33)", x.put(33), 1);
    due.is("put(126)", x.put(126), 2);
    for (int code : new int[] {1, 32, 127, 128, 161, 255}) {
      for (int place = 0; place < 8; place++) {
        long number = Due.packed("wwwwwwww") & ~(255L << 8 * place) | (long) code << 8 * place;
        due.error(x, "put(" + number + ")", () -> x.put(number), GrooveTurns.BAD_VALUE);
      }
      due.error(x, "put(" + code + ")", () -> x.put(code), GrooveTurns.BAD_VALUE);
    }
    for (long number : new long[] {-1, Long.MIN_VALUE, Long.MAX_VALUE, 'w' - 256}) {
      due.error(x, "put(" + number + ")", () -> x.put(number), GrooveTurns.BAD_VALUE);
    }
  }

  private static void zeros(Due due) {
    GrooveTurns x = new GrooveTurns();
    due.error(x, "put(0)", () -> x.put(0), GrooveTurns.BAD_VALUE);
    due.error(x, "put of a character behind none", () -> x.put((long) 'w' << 8), GrooveTurns.BAD_VALUE);
    due.error(x, "put with a gap", () -> x.put((long) 'w' << 16 | 'w'), GrooveTurns.BAD_VALUE);
    due.error(x, "put with a far bit", () -> x.put(1L << 63 | 'w'), GrooveTurns.BAD_VALUE);
    due.error(x, "put with a far bit", () -> x.put(1L << 32 | 'w'), GrooveTurns.BAD_VALUE);
    due.error(x, "put with a gap of seven", () -> x.put((long) 'w' << 56 | 'w'), GrooveTurns.BAD_VALUE);
    for (int signs = 1; signs <= 8; signs++) {
      x.wipe();
      due.is("put of " + signs, x.put(Due.packed("r1;r2;r3".substring(0, signs))), signs);
      due.is("fault()", x.fault(), signs % 3 == 2 ? GrooveTurns.NONE : signs);
    }
  }

  private static void length(Due due) {
    GrooveTurns x = new GrooveTurns();
    for (int i = 1; i <= 7; i++) due.is("put(eight)", x.put(Due.packed("r1;;;;;;")), 8 * i);
    due.error(x, "put(five) at 56", () -> x.put(Due.packed("abcde")), GrooveTurns.TOO_MANY);
    due.is("put(four) at 56", x.put(Due.packed("abcd")), 60);
    due.error(x, "put(one) at 60", () -> x.put('a'), GrooveTurns.TOO_MANY);
    due.error(x, "put(0) at 60", () -> x.put(0), GrooveTurns.BAD_VALUE);
    due.error(x, "put(32) at 60", () -> x.put(32), GrooveTurns.BAD_VALUE);
    due.is("wipe()", x.wipe(), 60);
    due.is("put(one)", x.put('a'), 1);
  }
}
