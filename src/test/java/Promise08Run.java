/** Promise 8: run. */
public final class Promise08Run implements Codes {
  private static final String DOES = "Does the requests of the pad, and empties the pad";
  private static final String PASSED = "one for which its method would return an error is passed over";
  private static final String LOWEST = "whether they are done by their tracks, from the lowest on";
  private static final String SAME = "those of the same track as they stand";
  private static final String AHEAD = "(by the tracks that they have ahead of all)";
  private static final String STAND = "otherwise all as they stand";

  public static void main(String[] args) {
    Sentences s = new Sentences();
    s.test(8, DOES, "one request, and as many as a pad can hold", Promise08Run::oneAndTwenty);
    s.test(8, DOES, "a pad of 60 characters", Promise08Run::sixtyCharacters);
    s.test(8, DOES, "the pad is empty then, and can be filled again", Promise08Run::emptied);
    s.test(8, DOES, "they are as write() and read() are", Promise08Run::asTheMethods);
    s.test(8, PASSED, "a read of nothing", Promise08Run::nothing);
    s.test(8, PASSED, "a read of what is lost, or is lost on the way", Promise08Run::lost);
    s.test(8, PASSED, "all of them: the pad is emptied, and 0 are done", Promise08Run::allPassedOver);
    s.test(8, PASSED, "it takes no ticks, and moves no head", Promise08Run::takesNoTicks);
    s.test(8, PASSED, "what is written on the way can be read", Promise08Run::writtenOnTheWay);
    s.test(8, LOWEST, "the tracks 15, 0 and 1", Promise08Run::lowestFirst);
    s.test(8, LOWEST, "the track 16 comes last", Promise08Run::sparesLast);
    s.test(8, SAME, "not by their sectors or numbers", Promise08Run::asTheyStandOnATrack);
    s.test(8, SAME, "also those on spares", Promise08Run::asTheyStandOnSpares);
    s.test(8, AHEAD, "one that gets a spare on the way keeps its place", Promise08Run::aheadOfAll);
    s.test(8, AHEAD, "one that will get a spare is on its own track still", Promise08Run::wornGoesFirst);
    s.test(8, STAND, "from the highest to the lowest", Promise08Run::asTheyStand);
    s.test(8, "This is a change.", "one alone for all requests", Promise08Run::oneChange);
    s.test(8, "This is a change.", "also if none is done", Promise08Run::changeOfNothing);
    s.test(8, "This is a change.", "undo does not fill the pad again", Promise08Run::padStaysEmpty);
    s.test(8, "Returns how many requests are done", "0, 1, and not those passed over", Promise08Run::howMany);
    s.test(8, "BAD_TEXT if the pad has a fault", "an empty pad", due -> {
      due.refused(due.fresh(), BAD_TEXT, x -> x.run(true));
      due.refused(due.fresh(), BAD_TEXT, x -> x.run(false));
    });
    for (String text : new String[] {"w1=2;", "w1", "w1=", "r192", "r1;w0=256", "x", ";", "r1;;r2", "r01", "r1r2"}) {
      s.test(8, "BAD_TEXT if the pad has a fault", "the pad " + text, due -> badText(due, text));
    }
    s.test(8, "BAD_TEXT if the pad has a fault", "one character more, and it has none", Promise08Run::mended);
    s.end();
  }

  private static String repeated(String request, int times) {
    StringBuilder text = new StringBuilder(request);
    for (int i = 1; i < times; i++) text.append(';').append(request);
    return text.toString();
  }

  private static void oneAndTwenty(Due due) {
    for (boolean isByTracks : new boolean[] {true, false}) {
      Run x = due.fresh();
      x.type("w0=1");
      due.is(x.run(isByTracks), 1);
      due.is(x.type(repeated("r0", 20)), 59);
      due.is(x.run(isByTracks), 20);
      due.is(x.count(READS), 20);
      due.is(x.count(TICKS), 1 + 20 * 12);
    }
  }

  private static void sixtyCharacters(Due due) {
    for (boolean isByTracks : new boolean[] {true, false}) {
      Run x = due.fresh();
      due.is(x.type("w191=255;w100=100;w101=101;w102=102;w103=103;w104=104;w105=1"), 60);
      due.is(x.run(isByTracks), 7);
      due.is(x.sector(191, HOLDS), 255);
      for (int address = 100; address <= 104; address++) due.is(x.sector(address, HOLDS), address);
      due.is(x.sector(105, HOLDS), 1);
      due.is(x.count(FILLED), 7);
    }
  }

  private static void emptied(Due due) {
    Run x = due.fresh();
    x.type("w5=6;r5");
    due.is(x.run(false), 2);
    due.is(x.count(PAD), 0);
    due.is(x.fault(), 0);
    due.is(x.run(false), BAD_TEXT);
    due.is(x.type("r5"), 2);
    due.is(x.run(false), 1);
  }

  private static void asTheMethods(Due due) {
    Run one = due.fresh();
    Run other = due.fresh();
    for (Run x : new Run[] {one, other}) {
      x.set(WEAR, 2);
      x.set(HEAT, 11);
    }
    one.type("w30=0;w42=255;r30;w42=9;w42=10;w42=11;r42;r30;w29=1;r31");
    due.is(one.run(false), 9);
    other.write(30, 0);
    other.write(42, 255);
    other.read(30);
    other.write(42, 9);
    other.write(42, 10);
    other.write(42, 11);
    other.read(42);
    other.read(30);
    other.write(29, 1);
    other.read(31);
    due.same("behind run(false)", one.disc(), other.disc());
  }

  private static void nothing(Due due) {
    Run x = due.fresh();
    x.type("r5;w6=1;r7;r6");
    due.is(x.run(false), 2);
    due.is(x.count(READS), 1);
    due.is(x.count(FILLED), 1);
  }

  private static void lost(Due due) {
    Run x = due.busy();
    x.wipe();
    x.type("r12;r36;w36=1;r12");
    due.is(x.run(false), 2);
    Run y = due.fresh();
    y.set(HEAT, 20);
    y.write(0, 1);
    y.type("w12=1;r0;w12=2;r0;w0=1;r0");
    due.is(y.run(false), 5);
    due.is(y.count(READS), 2);
  }

  private static void allPassedOver(Due due) {
    for (boolean isByTracks : new boolean[] {true, false}) {
      Run x = due.fresh();
      x.type("r5;r6;r190");
      String before = x.disc();
      due.is(x.run(isByTracks), 0);
      due.same("the disc", x.disc(), before);
      due.is(x.count(PAD), 0);
    }
  }

  private static void takesNoTicks(Due due) {
    Run x = due.fresh();
    x.type("r191;w0=1;r100;w1=1");
    due.is(x.run(false), 2);
    due.is(x.count(TICKS), 2);
    due.is(x.count(HEAD), 0);
    due.is(x.count(READS), 0);
  }

  private static void writtenOnTheWay(Due due) {
    Run x = due.fresh();
    x.type("r5;w5=8;r5");
    due.is(x.run(false), 2);
    due.is(x.count(READS), 1);
  }

  private static void lowestFirst(Due due) {
    Run x = due.fresh();
    // w0 1; w12 to 3, 12, 13; w24 to 15, 24, 25; w180 to 51, 60, 61.
    x.type("w180=1;w24=2;w0=3;w12=4");
    due.is(x.run(true), 4);
    due.is(x.count(TICKS), 61);
    due.is(x.count(HEAD), 15);
    // 12 heats 0, 24 heats 12, and 0 as far.
    due.is(x.sector(0, BLUR), 5);
    due.is(x.sector(12, BLUR), 4);
    due.is(x.sector(24, BLUR), 0);
  }

  private static void sparesLast(Due due) {
    Run x = due.fresh();
    x.write(3, 1);
    x.set(WEAR, 1);
    x.write(3, 2);
    x.set(WEAR, 99);
    x.type("w3=9;w180=7;w0=1");
    due.is(x.run(true), 3);
    due.is(x.count(HEAD), 16);
    due.is(x.sector(3, HOLDS), 9);
    due.is(x.count(SPARES), 11);
  }

  private static void asTheyStandOnATrack(Due due) {
    Run x = due.fresh();
    // At 2 on the track 1: the sector 11 until 12, the sector 0 until 13.
    x.type("w23=1;w12=2");
    due.is(x.ifRun(true), 13);
    due.is(x.wipe(), 11);
    x.type("w12=2;w23=1");
    due.is(x.ifRun(true), 24);
    x.wipe();
    x.type("w20=9;w20=1;r0;w20=5;r20;w20=3");
    due.is(x.run(true), 5);
    due.is(x.sector(20, HOLDS), 3);
  }

  private static void asTheyStandOnSpares(Due due) {
    Run x = due.fresh();
    x.write(100, 1);
    x.write(5, 1);
    x.set(WEAR, 1);
    x.write(100, 1);
    x.write(5, 1);
    // Both are on the track 16: 5 stands first, and gets the spare 2.
    x.type("w5=7;w100=8");
    due.is(x.run(true), 2);
    due.is(x.sector(5, PLACE), 2);
    due.is(x.sector(100, PLACE), 3);
  }

  private static void aheadOfAll(Due due) {
    Run x = due.fresh();
    x.set(WEAR, 1);
    x.type("w5=1;w5=2;r5;w17=4");
    due.is(x.run(true), 4);
    due.is(x.sector(5, HAS_SPARE), 1);
    due.is(x.count(READS), 1);
    due.is(x.count(HEAD), 1);
  }

  private static void wornGoesFirst(Due due) {
    Run x = due.fresh();
    x.set(WEAR, 1);
    x.write(5, 1);
    x.type("w17=4;w5=2");
    due.is(x.run(true), 2);
    due.is(x.sector(5, HAS_SPARE), 1);
    due.is(x.count(HEAD), 1);
  }

  private static void asTheyStand(Due due) {
    Run x = due.fresh();
    x.type("w36=9;w0=4;r36;w12=1");
    due.is(x.run(false), 4);
    // 6 to the track 3, the sector 0 at 12, ends at 13; back to 19, 24, 25; 31, 36, 37; back to 41, 48, 49.
    due.is(x.count(TICKS), 49);
    due.is(x.count(HEAD), 1);
    due.is(x.sector(36, BLUR), 1);
    due.is(x.sector(0, BLUR), 4);
    due.is(x.sector(12, BLUR), 0);
  }

  private static void oneChange(Due due) {
    Run x = due.fresh();
    x.write(7, 7);
    x.type("w0=1;w1=2;w7=3;r7");
    due.isOneChange(x, r -> r.run(false));
    x.type("w0=1;w12=2;w7=3;r7");
    due.isOneChange(x, r -> r.run(true));
  }

  private static void changeOfNothing(Due due) {
    Run x = due.fresh();
    x.type("r5;r6");
    due.isOneChange(x, r -> r.run(false));
  }

  private static void padStaysEmpty(Due due) {
    Run x = due.fresh();
    x.type("w5=6");
    x.run(true);
    due.is(x.undo(), 0);
    due.is(x.count(PAD), 0);
    due.is(x.count(FILLED), 0);
  }

  private static void howMany(Due due) {
    Run x = due.fresh();
    x.type("r0;r1;r191");
    due.is(x.run(true), 0);
    x.type("w0=0");
    due.is(x.run(true), 1);
    x.type("r1;r0;r191");
    due.is(x.run(true), 1);
  }

  private static void badText(Due due, String text) {
    Run x = due.busy();
    x.wipe();
    x.type(text);
    due.refused(x, BAD_TEXT, r -> r.run(true));
    due.refused(x, BAD_TEXT, r -> r.run(false));
    due.is(x.count(PAD), text.length());
  }

  private static void mended(Due due) {
    Run x = due.fresh();
    x.type("w1=1;r");
    due.is(x.run(true), BAD_TEXT);
    due.is(x.count(PAD), 6);
    x.put('1');
    due.is(x.run(true), 2);
  }
}
