/** Promise 8: run. */
public final class Promise08Run {
  public static void main(String[] args) {
    Due due = new Due();
    asTheyStand(due);
    byTracks(due);
    tracksAheadOfAll(due);
    sameTrackAsTheyStand(due);
    passedOver(due);
    oneChange(due);
    aFullPad(due);
    errors(due);
    due.end();
  }

  private static void asTheyStand(Due due) {
    GrooveTurns x = new GrooveTurns();
    Due.type(x, "w36=9;w0=4;r36");
    due.is("run(false)", x.run(false), 3);
    // 6 to the track 3, the sector 0 at 12, ends at 13; back to 19, the sector 0 at 24, ends at 25; 31, 36, 37.
    due.is("count(5)", x.count(5), 37);
    due.is("count(6)", x.count(6), 3);
    due.is("count(16)", x.count(16), 0);
    due.is("sector(36, 2)", x.sector(36, 2), 9);
    due.is("sector(0, 2)", x.sector(0, 2), 4);
    due.is("count(12)", x.count(12), 1);
    due.is("fault()", x.fault(), 0);
  }

  private static void byTracks(Due due) {
    GrooveTurns x = new GrooveTurns();
    Due.type(x, "w36=9;w0=4;r36;w12=1");
    due.is("run(true)", x.run(true), 4);
    // w0 1; w12 to 3, 12, 13; w36 to 17, 24, 25; r36 at 36, ends at 37.
    due.is("count(5)", x.count(5), 37);
    due.is("count(6)", x.count(6), 3);
    // w12 heats the sector of 0; w36 comes behind it, and blurs 12 by FAR.
    due.is("sector(0, 3)", x.sector(0, 3), 4);
    due.is("sector(12, 3)", x.sector(12, 3), 1);
    due.is("sector(36, 3)", x.sector(36, 3), 0);
    GrooveTurns y = new GrooveTurns();
    Due.type(y, "w36=9;w0=4;r36;w12=1");
    y.run(false);
    due.is("sector(36, 3) as they stand", y.sector(36, 3), 1);
  }

  private static void tracksAheadOfAll(Due due) {
    GrooveTurns x = new GrooveTurns();
    x.set(GrooveTurns.WEAR, 1);
    x.write(3, 1);
    x.write(3, 2);
    x.write(180, 5);
    x.seek(0);
    // 3 is on a spare, the track 16; 5 gets a spare only while the requests are done.
    Due.type(x, "w3=9;w180=7;w5=1;w5=2;w6=8;r5");
    due.is("run(true)", x.run(true), 6);
    // w5=1, w5=2 (spare 1), w6, r5 from the spare, w180 (spare 2), w3 (spare 3).
    due.is("sector(5, 1)", x.sector(5, 1), 1);
    due.is("sector(180, 1)", x.sector(180, 1), 2);
    due.is("sector(3, 1)", x.sector(3, 1), 3);
    due.is("sector(5, 2)", x.sector(5, 2), 2);
    due.is("count(6)", x.count(6), 16);
    GrooveTurns y = new GrooveTurns();
    y.set(GrooveTurns.WEAR, 1);
    y.write(5, 1);
    Due.type(y, "w5=2;w17=4");
    // 5 stands on the track 0 ahead of all, though it gets a spare: it goes first, and the head ends at the track 1.
    due.is("run(true)", y.run(true), 2);
    due.is("count(6)", y.count(6), 1);
  }

  private static void sameTrackAsTheyStand(Due due) {
    GrooveTurns x = new GrooveTurns();
    Due.type(x, "r20;w20=1;r14;r20;w14=2;w20=3;w1=1");
    due.is("ifRun(true)", x.ifRun(true), 2 + 7 + 12 + 6 + 6);
    due.is("run(true)", x.run(true), 5);
    due.is("sector(20, 2)", x.sector(20, 2), 3);
    due.is("sector(14, 2)", x.sector(14, 2), 2);
    due.is("count(12): r20 behind its writing alone", x.count(12), 1);
    due.is("count(7): behind the sector 8", x.count(7), 9);
  }

  private static void passedOver(Due due) {
    GrooveTurns x = new GrooveTurns();
    Due.type(x, "r5;r6;r190");
    due.is("run(false)", x.run(false), 0);
    due.is("count(5)", x.count(5), 0);
    due.is("count(6)", x.count(6), 0);
    due.is("count(12)", x.count(12), 0);
    due.is("count(16)", x.count(16), 0);
    due.is("count(17): also if nothing is different", x.count(17), 1);
    Due.type(x, "w191=0;r191;r190");
    due.is("run(false): the number 0 is read, too", x.run(false), 2);
    x.undo();
    x.set(GrooveTurns.HEAT, 20);
    x.write(0, 1);
    Due.type(x, "w12=1;r0;w12=2;r0;w0=1;r0");
    due.is("run(false) with a loss on the way", x.run(false), 5);
    due.is("count(12)", x.count(12), 2);
  }

  private static void oneChange(Due due) {
    GrooveTurns x = new GrooveTurns();
    x.write(7, 7);
    String before = Due.disc(x);
    Due.type(x, "w0=1;w1=2;w7=3");
    x.run(false);
    due.is("count(17)", x.count(17), 2);
    Due.type(x, "r1");
    due.is("undo()", x.undo(), 1);
    due.same("behind undo()", Due.disc(x), before);
    due.is("the pad is as it was", x.count(16), 2);
  }

  private static void aFullPad(Due due) {
    GrooveTurns x = new GrooveTurns();
    StringBuilder text = new StringBuilder("w1=4");
    while (text.length() < 58) text.append(";r1");
    Due.type(x, text.toString());
    due.is("count(16)", x.count(16), 58);
    due.is("run(true)", x.run(true), 19);
    due.is("count(12)", x.count(12), 18);
    x.write(0, 1);
    text = new StringBuilder("r0");
    while (text.length() < 59) text.append(";r0");
    Due.type(x, text.toString());
    due.is("count(16)", x.count(16), 59);
    due.is("ifRun(true)", x.ifRun(true), 20 * 12);
    due.is("ifRun(false)", x.ifRun(false), 20 * 12);
    due.is("run(true)", x.run(true), 20);
    Due.type(x, "w191=255;w100=100;w101=100;w102=100;w103=100;w104=100;w105=1");
    due.is("count(16)", x.count(16), 60);
    due.is("run(true)", x.run(true), 7);
    due.is("sector(105, 2)", x.sector(105, 2), 1);
    due.is("sector(191, 2)", x.sector(191, 2), 255);
  }

  private static void errors(Due due) {
    GrooveTurns x = new GrooveTurns();
    due.error(x, "run(true) of an empty pad", () -> x.run(true), GrooveTurns.BAD_TEXT);
    for (String text : new String[] {"w1=2;", "w1", "r192", "w0=256", "x", "r1;;r2"}) {
      x.wipe();
      Due.type(x, text);
      due.error(x, "run(true) of " + text, () -> x.run(true), GrooveTurns.BAD_TEXT);
      due.error(x, "run(false) of " + text, () -> x.run(false), GrooveTurns.BAD_TEXT);
    }
  }
}
