/** Promise 11: count; and how the disc is made up. */
public final class Promise11Count implements Codes {
  private static final String LAND_GROOVE = "13 writings on land so far, 14 on groove so far (those on spares are neither)";
  private static final String MADE_UP = "The disc has 16 tracks, 0 to 15, in turns land (even numbers) and groove (odd ones), "
      + "each with 12 sectors, 0 to 11";

  public static void main(String[] args) {
    Sentences s = new Sentences();
    s.test(11, "0 to 4 the settings", "each, at first and when it is set", Promise11Count::theSettings);
    s.test(11, "5 the ticks", "0, and those of each kind of call", Promise11Count::ticks);
    s.test(11, "Ticks are counted from 0.", "0, then 1", Promise11Count::ticksFrom0);
    s.test(11, "6 the track of the head", "0 and 16", Promise11Count::head);
    s.test(11, "on the track at which the head is (0 at first)", "0 until it moves", Promise11Count::headAtFirst);
    s.test(11, "7 the sector under it", "11, then 0", Promise11Count::underHead);
    s.test(11, "8 spares that are left", "12 to 0, and 0 then", Promise11Count::spares);
    s.test(11, "behind them there is the track 16, whose 12 sectors are spares", "twelve and no more", Promise11Count::twelveSpares);
    s.test(11, MADE_UP, "land 0, groove 1, and so on to groove 15", Promise11Count::eachTrack);
    s.test(11, MADE_UP, "the sectors 0 and 11 of each track", Promise11Count::eachTracksEnds);
    s.test(11, "9 addresses that hold something", "0, 1 and all 192", Promise11Count::filled);
    s.test(11, "10 those of them that cannot be read", "at LOST, not below it, not what holds nothing", Promise11Count::unreadable);
    s.test(11, "10 those of them that cannot be read", "0 and 191", Promise11Count::unreadableEnds);
    s.test(11, "11 writings so far", "on land, groove and spares, also of refresh and run", Promise11Count::writings);
    s.test(11, "12 reads so far that were done", "also of refresh and run, none that were refused", Promise11Count::reads);
    s.test(11, LAND_GROOVE, "the writing on a spare", Promise11Count::landAndGroove);
    s.test(11, LAND_GROOVE, "what was written ahead of the spare stays", Promise11Count::landStays);
    s.test(11, "15 the greatest blur of an address", "0 and 99", Promise11Count::greatestBlur);
    s.test(11, "15 the greatest blur of an address", "also of one that cannot be read, at 0 and at 191", Promise11Count::greatestBlurEnds);
    s.test(11, "15 the greatest blur of an address", "not of a sector in use no more", Promise11Count::greatestBlurInUse);
    s.test(11, "16 the length of the pad", "0, 1 and 60", Promise11Count::padLength);
    s.test(11, "17 how many changes can be undone", "0 to 6, and 6 then", Promise11Count::undos);
    s.test(11, "Returns the number", "all eighteen", Promise11Count::allEighteen);
    s.test(11, "Returns a number.", "nothing changes", due -> due.unchanged(due.busy(), x -> {
      for (int what = -1; what <= 18; what++) x.count(what);
    }));
    s.test(11, "BAD_VALUE if what is out of range", "0 and 17 are taken", Promise11Count::firstAndLast);
    for (int what : new int[] {-1, 18, LEAST, MOST}) {
      s.test(11, "BAD_VALUE if what is out of range", what + " is refused",
          due -> due.refused(due.busy(), BAD_VALUE, x -> x.count(what)));
    }
    s.end();
  }

  private static void allEighteen(Due due) {
    Run x = due.fresh();
    int[] values = {6, 2, 7, 3, 1};
    for (int setting = HEAT; setting <= STEP; setting++) x.set(setting, values[setting]);
    x.write(1, 4);
    x.write(13, 5);
    x.write(25, 6);
    x.write(13, 5);
    x.read(25);
    x.write(13, 5);
    x.write(13, 5);
    x.type("w1=");
    // Of the writings, 1 has 6 + 2 + 6 + 6 blur, 25 has 6 + 6; 13 is on the spare 0. The ticks: w1 2, w13 14, w25 26,
    // w13 38, r25 50, w13 62; then to the track 16 at 77, and the sector 0 at 84.
    int[] wants = {6, 2, 7, 3, 1, 85, 16, 1, 11, 3, 2, 6, 1, 2, 3, 20, 3, 6};
    for (int what = 0; what < wants.length; what++) due.is(x.count(what), wants[what]);
  }

  private static void theSettings(Due due) {
    Run x = due.fresh();
    int[] firsts = {4, 1, 30, 20, 2};
    for (int setting = 0; setting <= 4; setting++) due.is(x.count(setting), firsts[setting]);
    for (int setting = 0; setting <= 4; setting++) x.set(setting, 10 + setting);
    for (int setting = 0; setting <= 4; setting++) due.is(x.count(setting), 10 + setting);
  }

  private static void ticks(Due due) {
    Run x = due.fresh();
    due.is(x.count(TICKS), 0);
    x.write(0, 1);
    due.is(x.count(TICKS), 1);
    x.read(0);
    due.is(x.count(TICKS), 13);
    x.refresh(0);
    due.is(x.count(TICKS), 37);
    x.seek(2);
    due.is(x.count(TICKS), 41);
    x.idle(7);
    due.is(x.count(TICKS), 48);
    x.type("w24=1");
    x.run(false);
    due.is(x.count(TICKS), 49);
    x.set(STEP, 5);
    x.save(0);
    x.untilLost(12, 0);
    x.ticksFor(100, true);
    due.is(x.count(TICKS), 49);
  }

  private static void ticksFrom0(Due due) {
    Run x = due.fresh();
    due.is(x.count(TICKS), 0);
    x.idle(1);
    due.is(x.count(TICKS), 1);
  }

  private static void head(Due due) {
    Run x = due.fresh();
    due.is(x.count(HEAD), 0);
    x.write(191, 1);
    due.is(x.count(HEAD), 15);
    x.seek(16);
    due.is(x.count(HEAD), 16);
    x.write(11, 1);
    due.is(x.count(HEAD), 0);
    x.write(12, 1);
    due.is(x.count(HEAD), 1);
  }

  private static void headAtFirst(Due due) {
    Run x = due.fresh();
    x.idle(100);
    x.write(3, 1);
    due.is(x.count(HEAD), 0);
    x.seek(1);
    due.is(x.count(HEAD), 1);
  }

  private static void underHead(Due due) {
    Run x = due.fresh();
    due.is(x.count(UNDER_HEAD), 0);
    x.idle(11);
    due.is(x.count(UNDER_HEAD), 11);
    x.idle(1);
    due.is(x.count(UNDER_HEAD), 0);
    x.write(4, 1);
    due.is(x.count(UNDER_HEAD), 5);
    x.write(11, 1);
    due.is(x.count(UNDER_HEAD), 0);
  }

  private static void spares(Due due) {
    Run x = due.fresh();
    x.set(WEAR, 1);
    x.write(70, 0);
    for (int left = 12; left >= 1; left--) {
      due.is(x.count(SPARES), left);
      x.write(70, 1);
    }
    due.is(x.count(SPARES), 0);
    x.write(70, 1);
    due.is(x.count(SPARES), 0);
  }

  private static void twelveSpares(Due due) {
    Run x = due.fresh();
    x.set(WEAR, 1);
    for (int address = 0; address < 13; address++) x.write(address * 7, 1);
    for (int address = 0; address < 13; address++) x.write(address * 7, 2);
    for (int address = 0; address < 12; address++) due.is(x.sector(address * 7, HAS_SPARE), 1);
    due.is(x.sector(12 * 7, HAS_SPARE), 0);
    due.is(x.track(16, FILLED_ON), 12);
  }

  private static void eachTrack(Due due) {
    Run x = due.fresh();
    for (int track = 0; track < 16; track++) {
      x.write(track * 12, 1);
      due.is(x.count(LAND), track / 2 + 1);
      due.is(x.count(GROOVE), (track + 1) / 2);
      due.is(x.count(WRITINGS), track + 1);
    }
  }

  private static void eachTracksEnds(Due due) {
    for (int track = 0; track < 16; track++) {
      Run x = due.fresh();
      x.write(track * 12, 1);
      x.write(track * 12 + 11, 1);
      due.is(x.track(track, WRITINGS_ON), 2);
      due.is(x.count(LAND), track % 2 == 0 ? 2 : 0);
      due.is(x.count(GROOVE), track % 2 == 1 ? 2 : 0);
    }
  }

  private static void filled(Due due) {
    Run x = due.fresh();
    x.set(HEAT, 20);
    due.is(x.count(FILLED), 0);
    for (int address = 191; address >= 0; address--) {
      x.write(address, 0);
      due.is(x.count(FILLED), 192 - address);
    }
    x.set(WEAR, 1);
    x.write(0, 1);
    x.write(191, 1);
    due.is(x.count(FILLED), 192);
  }

  private static void unreadable(Due due) {
    Run x = due.fresh();
    x.write(1, 4);
    x.write(13, 5);
    x.write(25, 6);
    x.write(13, 7);
    // 1 has 4 + 1 + 4, 25 has 4.
    x.set(LOST, 10);
    due.is(x.count(UNREADABLE), 0);
    x.set(LOST, 9);
    due.is(x.count(UNREADABLE), 1);
    x.set(LOST, 5);
    due.is(x.count(UNREADABLE), 1);
    x.write(13, 8);
    due.is(x.count(UNREADABLE), 2);
    due.is(x.count(FILLED), 3);
    x.write(1, 9);
    due.is(x.count(UNREADABLE), 1);
  }

  private static void unreadableEnds(Due due) {
    for (int address : new int[] {0, 11, 180, 191}) {
      Run x = due.fresh();
      int beside = address < 12 ? address + 12 : address - 12;
      x.write(address, 1);
      x.write(beside, 1);
      x.write(beside, 1);
      x.set(LOST, 8);
      due.is(x.count(UNREADABLE), 1);
    }
  }

  private static void writings(Due due) {
    Run x = due.fresh();
    x.set(WEAR, 1);
    x.write(0, 1);
    x.write(12, 1);
    x.write(12, 2);
    due.is(x.count(WRITINGS), 3);
    x.refresh(12);
    due.is(x.count(WRITINGS), 4);
    x.type("w1=1;r1;w0=2");
    x.run(true);
    due.is(x.count(WRITINGS), 6);
    x.write(192, 1);
    x.write(0, 256);
    x.refresh(100);
    due.is(x.count(WRITINGS), 6);
  }

  private static void reads(Due due) {
    Run x = due.busy();
    due.is(x.count(READS), 1);
    x.read(12);
    x.read(100);
    x.read(192);
    x.refresh(12);
    due.is(x.count(READS), 1);
    x.refresh(36);
    due.is(x.count(READS), 2);
    x.wipe();
    x.type("r36;r100;r24");
    x.run(false);
    due.is(x.count(READS), 4);
    x.write(0, 1);
    due.is(x.count(READS), 4);
  }

  private static void landAndGroove(Due due) {
    Run x = due.fresh();
    x.set(WEAR, 1);
    for (int address : new int[] {0, 12}) {
      x.write(address, 1);
      x.write(address, 2);
      x.write(address, 3);
    }
    due.is(x.count(LAND), 1);
    due.is(x.count(GROOVE), 1);
    due.is(x.count(WRITINGS), 6);
  }

  private static void landStays(Due due) {
    Run x = due.fresh();
    for (int i = 0; i < 21; i++) x.write(30, 1);
    due.is(x.sector(30, HAS_SPARE), 1);
    due.is(x.count(LAND), 20);
    due.is(x.count(GROOVE), 0);
    due.is(x.count(WRITINGS), 21);
  }

  private static void greatestBlur(Due due) {
    Run x = due.fresh();
    x.set(HEAT, 20);
    due.is(x.count(GREATEST_BLUR), 0);
    x.write(50, 1);
    due.is(x.count(GREATEST_BLUR), 0);
    for (int i = 1; i <= 6; i++) {
      x.write(62, 1);
      due.is(x.count(GREATEST_BLUR), Math.min(99, 20 * i));
    }
  }

  private static void greatestBlurEnds(Due due) {
    for (int address : new int[] {0, 1, 180, 191}) {
      Run x = due.fresh();
      int beside = address < 12 ? address + 12 : address - 12;
      x.set(LOST, 5);
      x.set(HEAT, 20);
      x.write(address, 1);
      x.write(beside, 1);
      due.is(x.sector(address, READABLE), 0);
      due.is(x.count(GREATEST_BLUR), 20);
    }
  }

  private static void greatestBlurInUse(Due due) {
    Run x = due.fresh();
    x.write(0, 1);
    x.write(12, 1);
    x.write(12, 1);
    x.write(24, 1);
    due.is(x.count(GREATEST_BLUR), 9);
    x.set(WEAR, 1);
    x.write(0, 1);
    due.is(x.count(GREATEST_BLUR), 4);
  }

  private static void padLength(Due due) {
    Run x = due.fresh();
    due.is(x.count(PAD), 0);
    x.put('w');
    due.is(x.count(PAD), 1);
    x.type("w1=1;w2=2;w3=3;w4=4;w5=5;w6=6;w7=7;w8=8;w9=9;w1=1;w2=2;w3=3");
    due.is(x.count(PAD), 60);
    x.put('3');
    due.is(x.count(PAD), 60);
    x.wipe();
    due.is(x.count(PAD), 0);
  }

  private static void undos(Due due) {
    Run x = due.fresh();
    for (int i = 0; i <= 8; i++) {
      due.is(x.count(UNDOS), Math.min(6, i));
      x.idle(1);
    }
    for (int i = 5; i >= 0; i--) {
      x.undo();
      due.is(x.count(UNDOS), i);
    }
    x.undo();
    due.is(x.count(UNDOS), 0);
  }

  private static void firstAndLast(Due due) {
    Run x = due.fresh();
    due.is(x.count(0), 4);
    x.set(0, 7);
    due.is(x.count(0), 7);
    due.is(x.count(17), 1);
  }
}
