/** Promise 13: ifRun. */
public final class Promise13IfRun implements Codes {
  private static final String TELLS = "Tells how many ticks the requests of the pad would take, as run() does them.";

  public static void main(String[] args) {
    Sentences s = new Sentences();
    s.test(13, TELLS, "as they stand, and by their tracks", Promise13IfRun::bothWays);
    s.test(13, TELLS, "the ticks that they take, not the tick at which they end", Promise13IfRun::laterOn);
    s.test(13, TELLS, "those passed over take none; 0 if all are", Promise13IfRun::passedOver);
    s.test(13, TELLS, "with the spares that they get", Promise13IfRun::spares);
    s.test(13, TELLS, "with what is written and lost on the way", Promise13IfRun::onTheWay);
    s.test(13, TELLS, "one request, and twenty", Promise13IfRun::oneAndTwenty);
    s.test(13, TELLS, "nothing changes, the pad neither", due -> due.unchanged(due.busy(), x -> {
      due.is(x.ifRun(true) > 0 ? 1 : 0, 1);
      due.is(x.ifRun(false) > 0 ? 1 : 0, 1);
    }));
    s.test(13, "BAD_TEXT if the pad has a fault", "an empty pad", due -> {
      due.refused(due.fresh(), BAD_TEXT, x -> x.ifRun(true));
      due.refused(due.fresh(), BAD_TEXT, x -> x.ifRun(false));
    });
    for (String text : new String[] {"w1=2;", "w1", "w1=", "r192", "r1;w0=256", "x", ";", "r01"}) {
      s.test(13, "BAD_TEXT if the pad has a fault", "the pad " + text, due -> {
        Run x = due.busy();
        x.wipe();
        x.type(text);
        due.refused(x, BAD_TEXT, r -> r.ifRun(true));
        due.refused(x, BAD_TEXT, r -> r.ifRun(false));
      });
    }
    s.test(13, "Returns the ticks; BAD_TEXT if the pad has a fault", "one character more, and it has none", Promise13IfRun::mended);
    s.end();
  }

  private static void bothWays(Due due) {
    Run x = due.fresh();
    x.type("w36=9;w0=4;r37;w12=1");
    // As they stand: 13, 25, (r37 is passed over), at 27 the track 1, 36, 37. By tracks: 1, 13, 25.
    due.is(x.ifRun(false), 37);
    due.is(x.ifRun(true), 25);
  }

  private static void laterOn(Due due) {
    for (boolean isByTracks : new boolean[] {true, false}) {
      Run x = due.fresh();
      x.write(100, 1);
      x.idle(9999);
      x.type("w36=9;w0=4;r100;w12=1");
      int told = x.ifRun(isByTracks);
      int before = x.count(TICKS);
      x.run(isByTracks);
      due.is("the ticks of run(" + isByTracks + ")", x.count(TICKS) - before, told);
    }
  }

  private static void passedOver(Due due) {
    Run x = due.fresh();
    x.type("r191;r5;r0");
    due.is(x.ifRun(true), 0);
    due.is(x.ifRun(false), 0);
    x.type(";w2=1;r190");
    due.is(x.ifRun(true), 3);
    due.is(x.ifRun(false), 3);
  }

  private static void spares(Due due) {
    for (boolean isByTracks : new boolean[] {true, false}) {
      Run x = due.fresh();
      x.set(WEAR, 1);
      x.type("w5=1;w50=2;r50;w5=1;r5;w50=3;w3=3;w5=2;r50;r4");
      int told = x.ifRun(isByTracks);
      int before = x.count(TICKS);
      x.run(isByTracks);
      due.is("the ticks of run(" + isByTracks + ")", x.count(TICKS) - before, told);
      due.is(x.count(SPARES), 9);
    }
    Run y = due.fresh();
    y.set(WEAR, 1);
    y.type("w0=1;w0=2");
    due.is(y.ifRun(false), 1 + 36);
  }

  private static void onTheWay(Due due) {
    Run x = due.fresh();
    x.set(HEAT, 20);
    x.write(0, 1);
    // The second r0 is lost: 12, 12, 12.
    x.type("w12=1;r0;w12=2;r0");
    due.is(x.ifRun(false), 36);
    x.wipe();
    x.type("r5;w5=1;r5");
    due.is(x.ifRun(false), 5 + 12);
  }

  private static void oneAndTwenty(Due due) {
    Run x = due.fresh();
    x.write(0, 1);
    x.type("r0");
    due.is(x.ifRun(true), 12);
    for (int i = 1; i < 20; i++) x.type(";r0");
    due.is(x.count(PAD), 59);
    due.is(x.ifRun(true), 240);
    due.is(x.ifRun(false), 240);
  }

  private static void mended(Due due) {
    Run x = due.fresh();
    x.type("w1=1;r");
    due.is(x.ifRun(false), BAD_TEXT);
    x.put('1');
    due.is(x.ifRun(false), 2 + 12);
  }
}
