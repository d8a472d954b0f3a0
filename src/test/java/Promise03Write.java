/** Promise 3: write. */
public final class Promise03Write {
  public static void main(String[] args) {
    Due due = new Due();
    ordinary(due);
    heatIsOnWhatHoldsSomething(due);
    blurEndsAt99(due);
    edgesOfTheDisc(due);
    spares(due);
    sparesRunOut(due);
    errors(due);
    due.end();
  }

  private static void ordinary(Due due) {
    GrooveTurns x = new GrooveTurns();
    due.is("write(0, 0)", x.write(0, 0), 1);
    due.is("count(5)", x.count(5), 1);
    due.is("sector(0, 2)", x.sector(0, 2), 0);
    due.is("write(0, 255) a turn later", x.write(0, 255), 12);
    due.is("sector(0, 2)", x.sector(0, 2), 255);
    due.is("sector(0, 4)", x.sector(0, 4), 2);
    // At 13: two tracks, 4 ticks, to 17; the sector 5 is under the head at once.
    due.is("write(29, 3)", x.write(29, 3), 5);
    due.is("count(6)", x.count(6), 2);
    // At 18: back one track to 20, the sector 7 comes by at 31.
    due.is("write(19, 3)", x.write(19, 3), 14);
    due.is("count(5)", x.count(5), 32);
    due.is("count(17)", x.count(17), 4);
    due.is("count(11)", x.count(11), 4);
    due.is("write(191, 9)", x.write(191, 9), 28 + 11 + 1);
    due.is("sector(191, 2)", x.sector(191, 2), 9);
  }

  private static void heatIsOnWhatHoldsSomething(Due due) {
    GrooveTurns x = new GrooveTurns();
    x.set(GrooveTurns.FAR, 3);
    for (int track = 4; track <= 10; track++) x.write(track * 12 + 6, 1);
    x.write(7 * 12 + 5, 1);
    x.write(7 * 12 + 7, 1);
    for (int track = 4; track <= 10; track++) x.write(track * 12 + 6, 2);
    x.set(GrooveTurns.HEAT, 5);
    int[] before = new int[16];
    for (int track = 0; track < 16; track++) before[track] = x.sector(track * 12 + 6, 3);
    x.write(7 * 12 + 6, 3);
    int[] more = {0, 0, 0, 0, 0, 3, 5, 0, 5, 3, 0, 0, 0, 0, 0, 0};
    for (int track = 0; track < 16; track++) {
      int want = track == 7 ? 0 : before[track] + more[track];
      due.is("blur on the track " + track, x.sector(track * 12 + 6, 3), want);
    }
    due.is("blur of the neighbour on the same track", x.sector(7 * 12 + 5, 3), 0);
    due.is("blur of the neighbour on the same track", x.sector(7 * 12 + 7, 3), 0);
  }

  private static void blurEndsAt99(Due due) {
    GrooveTurns x = new GrooveTurns();
    x.set(GrooveTurns.HEAT, 20);
    x.set(GrooveTurns.WEAR, 99);
    x.write(0, 1);
    for (int i = 1; i <= 7; i++) {
      x.write(12, i);
      due.is("blur behind " + i, x.sector(0, 3), Math.min(99, 20 * i));
    }
    due.is("what it holds still", x.sector(0, 2), 1);
    due.is("write(0, 2)", x.write(0, 2) > 0 ? x.sector(0, 3) : -9, 0);
    due.is("it can be read", x.sector(0, 6), 1);
  }

  private static void edgesOfTheDisc(Due due) {
    GrooveTurns x = new GrooveTurns();
    for (int a : new int[] {0, 12, 24, 167, 179, 191, 179, 167, 24, 12, 0, 191}) x.write(a, 1);
    due.is("sector(0, 3)", x.sector(0, 3), 0);
    due.is("sector(12, 3)", x.sector(12, 3), 4);
    due.is("sector(24, 3)", x.sector(24, 3), 4 + 1);
    due.is("sector(167, 3)", x.sector(167, 3), 1);
    due.is("sector(179, 3)", x.sector(179, 3), 4 + 4);
    due.is("sector(191, 3)", x.sector(191, 3), 0);
    due.is("spares are not heated", x.track(16, 2), 0);
  }

  private static void spares(Due due) {
    GrooveTurns x = new GrooveTurns();
    x.set(GrooveTurns.WEAR, 2);
    x.write(168, 1);
    x.write(180, 1);
    x.write(180, 2);
    due.is("sector(180, 5)", x.sector(180, 5), 0);
    due.is("sector(168, 3)", x.sector(168, 3), 8);
    x.write(180, 3);
    due.is("sector(180, 5)", x.sector(180, 5), 1);
    due.is("sector(180, 0)", x.sector(180, 0), 16);
    due.is("sector(180, 1)", x.sector(180, 1), 0);
    due.is("sector(180, 2)", x.sector(180, 2), 3);
    due.is("sector(180, 4)", x.sector(180, 4), 1);
    due.is("a spare heats nothing", x.sector(168, 3), 8);
    x.write(168, 4);
    due.is("what is in use no more is not heated", x.track(15, 2), 0);
    due.is("a spare is not heated", x.sector(180, 3), 0);
    due.is("sector(168, 4)", x.sector(168, 4), 2);
    x.write(180, 5);
    due.is("sector(180, 1)", x.sector(180, 1), 0);
    x.write(180, 6);
    due.is("a spare behind a spare", x.sector(180, 1), 1);
    due.is("count(8)", x.count(8), 10);
    x.set(GrooveTurns.WEAR, 99);
    x.write(180, 7);
    due.is("it keeps its spare", x.sector(180, 1), 1);
  }

  private static void sparesRunOut(Due due) {
    GrooveTurns x = new GrooveTurns();
    x.set(GrooveTurns.WEAR, 1);
    for (int i = 0; i <= 12; i++) {
      due.is("count(8)", x.count(8), i == 0 ? 12 : 13 - i);
      x.write(70, i);
    }
    due.is("count(8)", x.count(8), 0);
    due.is("sector(70, 1)", x.sector(70, 1), 11);
    due.is("sector(70, 4)", x.sector(70, 4), 1);
    x.write(70, 99);
    due.is("sector(70, 4) without a spare left", x.sector(70, 4), 2);
    x.write(5, 1);
    x.write(17, 1);
    x.write(5, 2);
    due.is("sector(5, 5) without a spare left", x.sector(5, 5), 0);
    due.is("it heats still", x.sector(17, 3), 4);
  }

  private static void errors(Due due) {
    GrooveTurns x = new GrooveTurns();
    x.write(12, 1);
    for (int address : new int[] {-1, 192, 203, Integer.MIN_VALUE, Integer.MAX_VALUE}) {
      due.error(x, "write(" + address + ", 0)", () -> x.write(address, 0), GrooveTurns.NO_SUCH);
      due.error(x, "write(" + address + ", 256)", () -> x.write(address, 256), GrooveTurns.NO_SUCH);
    }
    for (int number : new int[] {-1, 256, Integer.MIN_VALUE, Integer.MAX_VALUE, GrooveTurns.NONE}) {
      due.error(x, "write(0, " + number + ")", () -> x.write(0, number), GrooveTurns.BAD_VALUE);
    }
  }
}
