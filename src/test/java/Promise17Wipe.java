/** Promise 17: wipe. */
public final class Promise17Wipe implements Codes {
  private static final String EMPTIES = "Empties the pad, and returns the length that it had.";

  public static void main(String[] args) {
    Sentences s = new Sentences();
    s.test(17, EMPTIES, "0 of an empty pad", Promise17Wipe::empty);
    s.test(17, EMPTIES, "1 and 60", Promise17Wipe::oneAndSixty);
    s.test(17, EMPTIES, "also a text that has a fault", Promise17Wipe::faulty);
    s.test(17, EMPTIES, "nothing is left of it for the next text", Promise17Wipe::nothingIsLeft);
    s.test(17, EMPTIES, "it is no change, and leaves the disc alone", Promise17Wipe::noChange);
    s.test(17, EMPTIES, "undo and restore do not bring it back", Promise17Wipe::notBroughtBack);
    s.end();
  }

  private static void empty(Due due) {
    Run x = due.fresh();
    due.is(x.wipe(), 0);
    due.is(x.wipe(), 0);
    due.is(x.count(PAD), 0);
    x.put('r');
    x.wipe();
    due.is(x.wipe(), 0);
  }

  private static void oneAndSixty(Due due) {
    Run x = due.fresh();
    x.put('r');
    due.is(x.wipe(), 1);
    for (int i = 0; i < 60; i++) x.put('r');
    due.is(x.wipe(), 60);
    due.is(x.count(PAD), 0);
    due.is(x.fault(), 0);
  }

  private static void faulty(Due due) {
    Run x = due.fresh();
    x.type("xyz;;");
    due.is(x.wipe(), 5);
    due.is(x.fault(), 0);
    due.is(x.run(true), BAD_TEXT);
  }

  private static void nothingIsLeft(Due due) {
    Run x = due.fresh();
    x.type("w0=1;w2=3");
    x.wipe();
    due.is(x.type("w5"), 2);
    due.is(x.fault(), 2);
    due.is(x.type("=9"), 4);
    due.is(x.run(false), 1);
    due.is(x.sector(5, HOLDS), 9);
    due.is(x.count(FILLED), 1);
  }

  private static void noChange(Due due) {
    Run x = due.busy();
    String before = x.disc();
    due.is(x.wipe(), 9);
    due.same("the disc", x.disc(), before);
    due.is(x.count(UNDOS), 6);
    Run y = due.fresh();
    y.put('r');
    y.wipe();
    due.is(y.count(UNDOS), 0);
  }

  private static void notBroughtBack(Due due) {
    Run x = due.fresh();
    x.type("r1");
    x.write(1, 1);
    x.save(0);
    x.wipe();
    x.undo();
    due.is(x.count(PAD), 0);
    x.restore(0);
    due.is(x.count(PAD), 0);
  }
}
