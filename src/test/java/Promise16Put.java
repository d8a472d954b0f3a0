/** Promise 16: put. */
public final class Promise16Put implements Codes {
  private static final String ORDER = "its lowest 8 bits are the last character, the next 8 bits the one before, and so on";
  private static final String ZEROS = "8 bits that are 0 mean that there are no more characters, and everything above them has to be 0, too";
  private static final String ABOVE = "or a bit above 8 bits that are 0 is not 0";

  public static void main(String[] args) {
    Sentences s = new Sentences();
    s.test(16, "Appends characters to the pad.", "behind those that are there", Promise16Put::appends);
    s.test(16, "Appends characters to the pad.", "it is no change", Promise16Put::noChange);
    s.test(16, ORDER, "the order is kept", Promise16Put::orderIsKept);
    s.test(16, ZEROS, "1 to 7 characters with zeros above", Promise16Put::zerosAbove);
    s.test(16, "`characters`: 1 to 8 characters", "1 and 8 are taken", Promise16Put::oneAndEight);
    s.test(16, "Returns the length of the pad then", "1 to 60", Promise16Put::lengths);
    s.test(16, "BAD_VALUE if there is no character", "0 on an empty pad, on another, and on a full one", Promise16Put::noCharacter);
    s.test(16, "a code is not 33 to 126", "33 and 126 are taken, at each place", Promise16Put::codesTaken);
    for (int code : new int[] {1, 32, 127, 128, 160, 161, 255}) {
      s.test(16, "a code is not 33 to 126", code + " is refused, at each place", due -> codeRefused(due, code));
    }
    s.test(16, ABOVE, "a character above a gap of one to seven", Promise16Put::gaps);
    s.test(16, ABOVE, "one bit, the lowest above a gap and the highest of all", Promise16Put::singleBits);
    s.test(16, ABOVE, "no last character, but one before", Promise16Put::noLastCharacter);
    s.test(16, "BAD_VALUE if there is no character, a code is not 33 to 126", "-1, and the least and the greatest", Promise16Put::farNumbers);
    s.test(16, "TOO_MANY if the pad would be longer than 60", "60 are taken, and not 61", Promise16Put::sixty);
    s.test(16, "TOO_MANY if the pad would be longer than 60", "8 at 52 are taken, 8 at 53 not", Promise16Put::eightAt52);
    s.test(16, "The pad is a text of at most 60 characters", "60, character by character", Promise16Put::characterByCharacter);
    s.test(16, "it names its errors in the order in which they are checked, and the first one that applies is returned",
        "BAD_VALUE on a full pad", Promise16Put::bothErrors);
    s.end();
  }

  private static void appends(Due due) {
    Run x = due.fresh();
    due.is(x.put('w'), 1);
    due.is(x.put(Run.packed("191=255;")), 9);
    due.is(x.put(Run.packed("r1")), 11);
    due.is(x.put(Run.packed("91")), 13);
    due.is(x.fault(), NONE);
    due.is(x.run(false), 2);
    due.is(x.sector(191, HOLDS), 255);
  }

  private static void noChange(Due due) {
    Run x = due.busy();
    String before = x.disc();
    due.is(x.count(UNDOS), 6);
    x.put(';');
    due.is(x.count(UNDOS), 6);
    due.same("the disc", x.disc(), before);
    Run y = due.fresh();
    y.put('r');
    due.is(y.count(UNDOS), 0);
    due.is(y.undo(), NOT_POSSIBLE);
  }

  private static void orderIsKept(Due due) {
    Run x = due.fresh();
    due.is(x.put(((long) 'w' << 24) | ('1' << 16) | ('=' << 8) | '2'), 4);
    due.is(x.run(false), 1);
    due.is(x.sector(1, HOLDS), 2);
    due.is(x.put(Run.packed("w12=34;w")), 8);
    due.is(x.put(Run.packed("56=78")), 13);
    due.is(x.run(false), 2);
    due.is(x.sector(12, HOLDS), 34);
    due.is(x.sector(56, HOLDS), 78);
  }

  private static void zerosAbove(Due due) {
    for (int signs = 1; signs <= 8; signs++) {
      Run x = due.fresh();
      due.is(x.put(Run.packed("r1;r2;r3".substring(0, signs))), signs);
      due.is(x.fault(), signs % 3 == 2 ? NONE : signs);
    }
  }

  private static void oneAndEight(Due due) {
    Run x = due.fresh();
    due.is(x.put('r'), 1);
    due.is(x.put(Run.packed("1;r2;r3;")), 9);
    due.is(x.put('~'), 10);
    due.is(x.put(Run.packed("~~~~~~~~")), 18);
  }

  private static void lengths(Due due) {
    Run x = due.fresh();
    int length = 0;
    for (int signs : new int[] {1, 2, 3, 4, 5, 6, 7, 8, 8, 8, 8}) {
      length += signs;
      due.is(x.put(Run.packed("!!!!!!!!".substring(0, signs))), length);
      due.is(x.count(PAD), length);
    }
    due.is("the pad", length, 60);
  }

  private static void noCharacter(Due due) {
    due.refused(due.fresh(), BAD_VALUE, x -> x.put(0));
    due.refused(due.busy(), BAD_VALUE, x -> x.put(0));
    Run x = due.fresh();
    full(x);
    due.refused(x, BAD_VALUE, r -> r.put(0));
  }

  private static long with(int code, int place) {
    return Run.packed("wwwwwwww") & ~(255L << 8 * place) | (long) code << 8 * place;
  }

  private static void codesTaken(Due due) {
    for (int code : new int[] {33, 126}) {
      due.is(due.fresh().put(code), 1);
      for (int place = 0; place < 8; place++) due.is(due.fresh().put(with(code, place)), 8);
    }
  }

  private static void codeRefused(Due due, int code) {
    due.refused(due.busy(), BAD_VALUE, x -> x.put(code));
    due.refused(due.fresh(), BAD_VALUE, x -> x.put(code << 8 | 'w'));
    for (int place = 0; place < 8; place++) {
      long number = with(code, place);
      due.refused(due.busy(), BAD_VALUE, x -> x.put(number));
    }
  }

  private static void gaps(Due due) {
    for (int gap = 1; gap <= 6; gap++) {
      long number = (long) 'w' << 8 * (gap + 1) | 'w';
      due.refused(due.busy(), BAD_VALUE, x -> x.put(number));
    }
    due.refused(due.busy(), BAD_VALUE, x -> x.put(0x7777007777777777L));
    due.refused(due.busy(), BAD_VALUE, x -> x.put(0x7700777777777777L));
    due.refused(due.busy(), BAD_VALUE, x -> x.put(0x0077777777770077L));
  }

  private static void singleBits(Due due) {
    for (int bit = 16; bit < 64; bit++) {
      long number = 1L << bit | 'w';
      due.refused(due.fresh(), BAD_VALUE, x -> x.put(number));
    }
    due.refused(due.busy(), BAD_VALUE, x -> x.put(1L << 63 | 'w'));
    due.refused(due.busy(), BAD_VALUE, x -> x.put(1L << 32 | 'w'));
  }

  private static void noLastCharacter(Due due) {
    due.refused(due.busy(), BAD_VALUE, x -> x.put((long) 'w' << 8));
    due.refused(due.busy(), BAD_VALUE, x -> x.put((long) 'w' << 56));
    due.refused(due.busy(), BAD_VALUE, x -> x.put(0x7777777777777700L));
  }

  private static void farNumbers(Due due) {
    for (long number : new long[] {-1, Long.MIN_VALUE, Long.MAX_VALUE, 'w' - 256, Integer.MAX_VALUE, Integer.MIN_VALUE}) {
      due.refused(due.busy(), BAD_VALUE, x -> x.put(number));
    }
  }

  private static void full(Run x) {
    for (int i = 0; i < 7; i++) x.put(Run.packed("r1;r2;r3"));
    x.put(Run.packed(";r12"));
  }

  private static void sixty(Due due) {
    Run x = due.fresh();
    for (int i = 1; i <= 7; i++) due.is(x.put(Run.packed("r1;r2;r3")), 8 * i);
    due.refused(x, TOO_MANY, r -> r.put(Run.packed(";r123")));
    due.is(x.put(Run.packed(";r12")), 60);
    due.refused(x, TOO_MANY, r -> r.put('1'));
    due.refused(x, TOO_MANY, r -> r.put(Run.packed("r1;r2;r3")));
    due.is(x.wipe(), 60);
    due.is(x.put('1'), 1);
  }

  private static void eightAt52(Due due) {
    for (int length : new int[] {52, 53, 59}) {
      Run x = due.fresh();
      for (int i = 0; i < length; i++) x.put('!');
      if (length == 52) due.is(x.put(Run.packed("r1;r2;r3")), 60);
      else due.refused(x, TOO_MANY, r -> r.put(Run.packed("r1;r2;r3")));
    }
  }

  private static void characterByCharacter(Due due) {
    Run x = due.fresh();
    for (int i = 1; i <= 60; i++) due.is(x.put("r1;".charAt((i - 1) % 3)), i);
    due.is(x.put('r'), TOO_MANY);
    due.is(x.count(PAD), 60);
    due.is(x.fault(), 60);
  }

  private static void bothErrors(Due due) {
    Run x = due.fresh();
    full(x);
    due.is(x.count(PAD), 60);
    for (long number : new long[] {0, 32, 127, (long) 'w' << 8, Run.packed("wwwwwww ")}) {
      due.refused(x, BAD_VALUE, r -> r.put(number));
    }
  }
}
