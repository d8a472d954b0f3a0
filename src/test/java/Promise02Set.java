/** Promise 2: set. */
public final class Promise02Set implements Codes {
  public static void main(String[] args) {
    Sentences s = new Sentences();
    range(s, "HEAT (0 to 20; 4)", HEAT, 0, 20, 4);
    range(s, "FAR (0 to 20; 1)", FAR, 0, 20, 1);
    range(s, "LOST (5 to 99; 30)", LOST, 5, 99, 30);
    range(s, "WEAR (1 to 99; 20)", WEAR, 1, 99, 20);
    range(s, "STEP (0 to 20; 2)", STEP, 0, 20, 2);
    s.test(2, "Changes a setting.", "no other setting, and nothing else", Promise02Set::thatOneAlone);
    s.test(2, "Changes a setting.", "blur that is there stays as it is", Promise02Set::blurStays);
    s.test(2, "This is a change.", "it is recorded, and undone", due -> due.isOneChange(due.fresh(), x -> x.set(HEAT, 9)));
    s.test(2, "This is a change.", "also if the value is the same", due -> due.isOneChange(due.fresh(), x -> x.set(HEAT, 4)));
    s.test(2, "Returns the previous value", "the first one, the one set, and 0", Promise02Set::previous);
    s.test(2, "BAD_VALUE if there is no such setting", "0 and 4 are settings", Promise02Set::firstAndLastSetting);
    for (int setting : new int[] {-1, 5, 17, LEAST, MOST}) {
      s.test(2, "BAD_VALUE if there is no such setting", setting + " is none", due -> {
        for (int value : new int[] {0, 5, 20}) due.refused(due.busy(), BAD_VALUE, x -> x.set(setting, value));
      });
    }
    s.test(2, "BAD_VALUE if there is no such setting, or value is out of its range", "both at once",
        due -> due.refused(due.busy(), BAD_VALUE, x -> x.set(5, -1)));
    s.end();
  }

  private static void range(Sentences s, String sentence, int setting, int lowest, int highest, int first) {
    s.test(2, sentence, first + " at first", due -> due.is(due.fresh().count(setting), first));
    s.test(2, sentence, lowest + " is taken", due -> taken(due, setting, lowest, first));
    s.test(2, sentence, highest + " is taken", due -> taken(due, setting, highest, first));
    for (int value : new int[] {lowest - 1, highest + 1}) {
      s.test(2, sentence, value + " is refused", due -> due.refused(due.busy(), BAD_VALUE, x -> x.set(setting, value)));
    }
    s.test(2, "or value is out of its range", "far out, for the setting " + setting, due -> {
      for (int value : new int[] {-100, 256, LEAST, MOST}) due.refused(due.busy(), BAD_VALUE, x -> x.set(setting, value));
    });
  }

  private static void taken(Due due, int setting, int value, int before) {
    Run x = due.fresh();
    due.is(x.set(setting, value), before);
    due.is(x.count(setting), value);
  }

  private static void thatOneAlone(Due due) {
    for (int setting = HEAT; setting <= STEP; setting++) {
      Run x = due.busy();
      Run y = due.busy();
      y.set(setting, y.count(setting));
      x.set(setting, 15);
      due.is(x.count(setting), 15);
      for (int what = 0; what <= UNDOS; what++) {
        if (what != setting && what != UNREADABLE) due.is(x.count(what), y.count(what));
      }
      for (int track = 0; track <= 16; track++) due.is(x.track(track, BLUR_ON), y.track(track, BLUR_ON));
    }
  }

  private static void blurStays(Due due) {
    Run x = due.fresh();
    x.write(0, 1);
    x.write(12, 1);
    x.set(HEAT, 20);
    x.set(FAR, 20);
    x.set(LOST, 5);
    due.is(x.sector(0, BLUR), 4);
    due.is(x.sector(0, READABLE), 1);
  }

  private static void previous(Due due) {
    Run x = due.fresh();
    due.is(x.set(STEP, 0), 2);
    due.is(x.set(STEP, 20), 0);
    due.is(x.set(STEP, 7), 20);
    due.is(x.set(STEP, 7), 7);
    due.is(x.set(STEP, 21), BAD_VALUE);
    due.is(x.set(STEP, 8), 7);
  }

  private static void firstAndLastSetting(Due due) {
    Run x = due.fresh();
    due.is(x.set(0, 5), 4);
    due.is(x.set(4, 5), 2);
    due.is(x.count(HEAT), 5);
    due.is(x.count(STEP), 5);
  }
}
