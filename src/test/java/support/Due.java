/** Compares answers with those that are due, and ends a test with exit code 1 if one was wrong. */
final class Due {
  private int wrong = 0;
  private int asked = 0;

  void is(String call, long got, long want) {
    asked++;
    if (got != want) {
      wrong++;
      System.out.println(call + " answered " + got + ", due is " + want);
    }
  }

  void same(String what, String got, String want) {
    asked++;
    if (!got.equals(want)) {
      wrong++;
      System.out.println(what + ": stands\n  " + got + "\ndue is\n  " + want);
    }
  }

  /** A call with an error: its answer, and that nothing that can be seen is different behind it. */
  void error(GrooveTurns x, String call, java.util.function.LongSupplier made, long want) {
    String before = look(x);
    is(call, made.getAsLong(), want);
    same("what there is behind " + call, look(x), before);
  }

  void end() {
    if (asked == 0) {
      System.out.println("nothing was asked");
      System.exit(1);
    }
    if (wrong != 0) {
      System.out.println(wrong + " of " + asked + " answers are not as due");
      System.exit(1);
    }
  }

  /** Up to 8 characters as put() takes them. */
  static long packed(String text) {
    long number = 0;
    for (char sign : text.toCharArray()) number = number << 8 | sign;
    return number;
  }

  static void type(GrooveTurns x, String text) {
    for (int from = 0; from < text.length(); from += 8) {
      x.put(packed(text.substring(from, Math.min(text.length(), from + 8))));
    }
  }

  /** All that the calls which change nothing tell of an object. */
  static String look(GrooveTurns x) {
    StringBuilder seen = new StringBuilder();
    for (int what = 0; what < 18; what++) seen.append("c").append(what).append("=").append(x.count(what)).append(' ');
    seen.append(disc(x)).append("fault=").append(x.fault());
    return seen.toString();
  }

  /** What look() tells, less the pad, the history and the settings, ticks and head. */
  static String disc(GrooveTurns x) {
    StringBuilder seen = new StringBuilder();
    for (int address = 0; address < 192; address++) {
      boolean isPlain = x.sector(address, 2) == GrooveTurns.NONE && x.sector(address, 3) == 0
          && x.sector(address, 4) == 0 && x.sector(address, 5) == 0;
      if (isPlain) continue;
      seen.append("a").append(address).append(":");
      for (int what = 0; what < 7; what++) seen.append(x.sector(address, what)).append(',');
    }
    for (int track = 0; track < 17; track++) {
      seen.append(" t").append(track).append(":");
      for (int what = 0; what < 4; what++) seen.append(x.track(track, what)).append(',');
    }
    return seen.append(' ').toString();
  }
}
