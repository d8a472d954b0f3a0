/** Promise 1: a new object; and the constants, and how long an object is used. */
public final class Promise01New implements Codes {
  public static void main(String[] args) {
    Sentences s = new Sentences();
    s.test(1, "Creates an empty disc", "no address holds, is blurred, was written or can be read", Promise01New::noAddress);
    s.test(1, "Creates an empty disc", "no track has anything on it, the spare track neither", Promise01New::noTrack);
    s.test(1, "Creates an empty disc", "all counts are 0, and 12 spares are left", Promise01New::noCount);
    s.test(1, "Creates an empty disc", "nothing is worst, nothing on the pad, nothing to undo or restore", Promise01New::nothingKept);
    s.test(1, "Creates an empty disc", "also when others were made and used ahead of it", Promise01New::objectsAreApart);
    s.test(1, "with the head at the track 0", "a request there takes no steps", Promise01New::headAt0);
    s.test(1, "at the tick 0", "the sector 0 is under the head", Promise01New::tick0);
    s.test(1, "it has a blur, and has been written a number of times (all 0 at first)", "the blur and the writings of the first and the last sector", Promise01New::allZero);
    s.test(1, "(In parentheses: range; first value.)", "the five first values", Promise01New::firstValues);
    s.test(1, "NO_SUCH = -1, BAD_VALUE = -2, BAD_TEXT = -3, TOO_MANY = -4, NOT_POSSIBLE = -5, NONE = -6",
        "the numbers of the codes", Promise01New::codes);
    s.test(1, "HEAT = 0, FAR = 1, LOST = 2, WEAR = 3, STEP = 4", "the numbers of the settings", Promise01New::settings);
    s.test(1, "An object is used for at most 512 calls after it has been made",
        "the 512th call still looks right", Promise01New::lastCallLooks);
    s.test(1, "An object is used for at most 512 calls after it has been made",
        "the 512th call still changes", Promise01New::lastCallChanges);
    s.test(1, "An object is used for at most 512 calls after it has been made",
        "the 512th call still undoes", Promise01New::lastCallUndoes);
    s.end();
  }

  private static void noAddress(Due due) {
    int[] wants = {0, 0, NONE, 0, 0, 0, 0};
    Run x = due.fresh();
    for (int address = 0; address < 192; address++) {
      for (int what = HOLDS; what <= READABLE; what++) {
        final int a = address, w = what;
        due.is("sector(" + a + ", " + w + ")", x.probe(o -> o.sector(a, w)), wants[w]);
      }
    }
  }

  private static void noTrack(Due due) {
    Run x = due.fresh();
    for (int track = 0; track <= 16; track++) {
      for (int what = 0; what < 4; what++) due.is(x.track(track, what), 0);
    }
  }

  private static void noCount(Due due) {
    Run x = due.fresh();
    for (int what = TICKS; what <= UNDOS; what++) due.is(x.count(what), what == SPARES ? 12 : 0);
  }

  private static void nothingKept(Due due) {
    Run x = due.fresh();
    due.is(x.worst(), NONE);
    due.is(x.fault(), 0);
    due.is(x.wipe(), 0);
    due.is(x.undo(), NOT_POSSIBLE);
    due.is(x.restore(0), NOT_POSSIBLE);
    due.is(x.restore(1), NOT_POSSIBLE);
  }

  private static void objectsAreApart(Due due) {
    String empty = due.fresh().look();
    Run busy = due.busy();
    Run x = due.fresh();
    busy.write(100, 1);
    busy.set(LOST, 50);
    due.same("a new object", x.look(), empty);
    due.is(x.write(0, 1), 1);
    due.is(busy.sector(0, HOLDS), NONE);
  }

  private static void headAt0(Due due) {
    Run x = due.fresh();
    due.is(x.count(HEAD), 0);
    due.is(x.ticksFor(0, false), 1);
    due.is(x.ticksFor(14, false), 2 + 0 + 1);
    due.is(x.seek(0), 0);
  }

  private static void tick0(Due due) {
    Run x = due.fresh();
    due.is(x.count(TICKS), 0);
    due.is(x.count(UNDER_HEAD), 0);
    due.is(x.write(0, 1), 1);
    due.is(x.count(TICKS), 1);
  }

  private static void allZero(Due due) {
    Run x = due.fresh();
    for (int address : new int[] {0, 191}) {
      due.is(x.sector(address, BLUR), 0);
      due.is(x.sector(address, TIMES), 0);
    }
    due.is(x.track(16, BLUR_ON), 0);
    due.is(x.track(16, WRITINGS_ON), 0);
    x.write(191, 1);
    due.is(x.sector(191, TIMES), 1);
    due.is(x.sector(191, BLUR), 0);
  }

  private static void firstValues(Due due) {
    Run x = due.fresh();
    int[] firsts = {4, 1, 30, 20, 2};
    for (int setting = HEAT; setting <= STEP; setting++) due.is(x.count(setting), firsts[setting]);
  }

  private static void codes(Due due) {
    int[] codes = {GrooveTurns.NO_SUCH, GrooveTurns.BAD_VALUE, GrooveTurns.BAD_TEXT, GrooveTurns.TOO_MANY,
        GrooveTurns.NOT_POSSIBLE, GrooveTurns.NONE};
    for (int i = 0; i < codes.length; i++) due.is("the code " + i, codes[i], -1 - i);
  }

  private static void settings(Due due) {
    int[] settings = {GrooveTurns.HEAT, GrooveTurns.FAR, GrooveTurns.LOST, GrooveTurns.WEAR, GrooveTurns.STEP};
    for (int i = 0; i < settings.length; i++) due.is("the setting " + i, settings[i], i);
  }

  private static void lastCallLooks(Due due) {
    Run x = due.fresh();
    for (int i = 0; i < 511; i++) x.idle(9999);
    due.is(x.count(TICKS), 511 * 9999);
    due.is("the calls made", x.made(), 512);
  }

  private static void lastCallChanges(Due due) {
    Run x = due.fresh();
    for (int i = 0; i < 511; i++) x.idle(9999);
    due.is(x.idle(9999), 512 * 9999 % 12);
    Run y = due.fresh();
    due.is(y.write(0, 0), 1);
    for (int i = 1; i < 512; i++) due.is(y.write(0, i % 256), i == 20 ? 32 + 3 + 1 : i > 20 && i % 20 == 0 && i <= 240 ? 1 : 12);
    due.is("the calls made", y.made(), 512);
  }

  private static void lastCallUndoes(Due due) {
    Run x = due.fresh();
    for (int i = 0; i < 511; i++) x.seek(i % 17);
    due.is(x.undo(), 5);
    due.is("the calls made", x.made(), 512);
  }
}
