/** Promise 11: count. */
public final class Promise11Count {
  public static void main(String[] args) {
    Due due = new Due();
    GrooveTurns x = new GrooveTurns();
    x.set(GrooveTurns.HEAT, 6);
    x.set(GrooveTurns.FAR, 2);
    x.set(GrooveTurns.LOST, 7);
    x.set(GrooveTurns.WEAR, 3);
    x.set(GrooveTurns.STEP, 1);
    x.write(1, 4);
    x.write(13, 5);
    x.write(25, 6);
    due.is("count(5)", x.count(5), 26);
    x.write(13, 5);
    x.read(25);
    x.write(13, 5);
    x.write(13, 5);
    Due.type(x, "w1=");
    // 1: HEAT + FAR + 2 HEAT = 20; 25: 2 HEAT = 12; 13 on the spare 0.
    // 26: w13 at 37, ends at 38; r25 at 49, ends at 50; w13 at 61, ends at 62; to the track 16 at 77, 84, 85.
    int[] wants = {6, 2, 7, 3, 1, 85, 16, 1, 11, 3, 2, 6, 1, 2, 3, 20, 3, 6};
    for (int what = 0; what < wants.length; what++) due.is("count(" + what + ")", x.count(what), wants[what]);
    x.set(GrooveTurns.LOST, 13);
    due.is("count(10)", x.count(10), 1);
    x.set(GrooveTurns.LOST, 21);
    due.is("count(10)", x.count(10), 0);
    due.is("count(15)", x.count(15), 20);
    theGreatestBlurIsOfAnAddress(due);
    eachTrack(due);
    for (int what : new int[] {-1, 18, Integer.MIN_VALUE, Integer.MAX_VALUE}) {
      due.error(x, "count(" + what + ")", () -> x.count(what), GrooveTurns.BAD_VALUE);
    }
    due.end();
  }

  private static void eachTrack(Due due) {
    GrooveTurns x = new GrooveTurns();
    x.set(GrooveTurns.FAR, 0);
    for (int track = 0; track < 16; track++) {
      x.write(track * 12, 1);
      due.is("count(9)", x.count(9), track + 1);
      due.is("count(11)", x.count(11), track + 1);
      due.is("count(13)", x.count(13), track / 2 + 1);
      due.is("count(14)", x.count(14), (track + 1) / 2);
    }
    due.is("count(15)", x.count(15), 4);
    for (int address : new int[] {0, 1, 180, 191}) {
      GrooveTurns y = new GrooveTurns();
      int beside = address < 12 ? address + 12 : address - 12;
      y.write(address, 1);
      y.write(beside, 1);
      due.is("count(15) of the address " + address, y.count(15), 4);
      y.write(beside, 1);
      y.set(GrooveTurns.LOST, 8);
      due.is("count(10) of the address " + address, y.count(10), 1);
      due.is("track(.., 1) of the address " + address, y.track(address / 12, 1), 1);
    }
  }

  private static void theGreatestBlurIsOfAnAddress(Due due) {
    GrooveTurns x = new GrooveTurns();
    x.write(0, 1);
    x.write(12, 1);
    x.write(12, 1);
    x.write(24, 1);
    due.is("count(15)", x.count(15), 9);
    x.set(GrooveTurns.WEAR, 1);
    x.write(0, 1);
    due.is("count(15) without a sector in use no more", x.count(15), 4);
    due.is("count(9)", x.count(9), 3);
    due.is("count(13)", x.count(13), 2);
    due.is("count(14)", x.count(14), 2);
    due.is("count(11)", x.count(11), 5);
  }
}
