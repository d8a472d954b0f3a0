/** Promise 3: write, and what the document tells of writing. */
public final class Promise03Write implements Codes {
  private static final String WORN = "if its sector was written WEAR times or more";
  private static final String LEFT = "and a spare is left, it gets the next spare";
  private static final String ORDER = "(from the sector 0 of the track 16 on; also if it had one already)";
  private static final String THEN = "Then its sector holds the number, its blur is 0, and it has been written once more.";
  private static final String NO_SPARE = "Then, if it is not a spare, what lies beside is heated";
  private static final String BESIDE = "the sectors with the same number on the track before and behind get HEAT more blur";
  private static final String AWAY = "those on the tracks two before and behind get FAR more";
  private static final String TRACKS = "but only those of the tracks 0 to 15 that hold something";
  private static final String IN_USE = "and are in use (that of an address)";
  private static final String MOST_BLUR = "the blur is 99 at most";

  public static void main(String[] args) {
    Sentences s = new Sentences();
    s.test(3, "Writes a number to an address.", "to that one alone, as often as it is asked for", Promise03Write::toOneAddress);
    s.test(3, "This is a change.", "it is recorded, and undone", due -> due.isOneChange(due.fresh(), x -> x.write(5, 5)));
    s.test(3, "`number`: 0 to 255", "0 is taken, and is something", due -> numberTaken(due, 0));
    s.test(3, "`number`: 0 to 255", "255 is taken", due -> numberTaken(due, 255));
    s.test(3, "Returns the ticks that it takes", "1 at least, 12 for the same sector again", Promise03Write::leastTicks);
    s.test(3, "Returns the ticks that it takes", "the most: 16 tracks of 20, 11 of waiting, and 1", Promise03Write::mostTicks);
    s.test(3, "Returns the ticks that it takes", "to the spare that it gets", Promise03Write::ticksToASpare);
    s.test(3, "NO_SUCH if there is no such address", "0 and 191 are addresses", Promise03Write::firstAndLastAddress);
    for (int address : new int[] {-1, 192, 203, 204, LEAST, MOST}) {
      s.test(3, "NO_SUCH if there is no such address", address + " is none",
          due -> due.refused(due.busy(), NO_SUCH, x -> x.write(address, 0)));
    }
    for (int number : new int[] {-1, 256, NONE, 511, LEAST, MOST}) {
      s.test(3, "BAD_VALUE if number is out of range", number + " is refused",
          due -> due.refused(due.busy(), BAD_VALUE, x -> x.write(0, number)));
    }
    s.test(3, "it names its errors in the order in which they are checked, and the first one that applies is returned",
        "no such address and no such number: NO_SUCH", Promise03Write::bothErrors);
    wear(s);
    heat(s);
    s.end();
  }

  private static void wear(Sentences s) {
    s.test(3, WORN, "not at WEAR - 1, but at WEAR", Promise03Write::atWear);
    s.test(3, WORN, "with WEAR 1 behind the first writing", Promise03Write::wear1);
    s.test(3, WORN, "with WEAR 20 at first: the 21st writing", Promise03Write::wear20);
    s.test(3, WORN, "with WEAR 99: the 100th writing", Promise03Write::wear99);
    s.test(3, WORN, "or more: behind a WEAR that has been lowered", Promise03Write::aboveWear);
    s.test(3, WORN, "its sector: that of the address alone, not those beside", Promise03Write::itsOwnSector);
    s.test(3, LEFT, "the last spare is given, and none behind it", Promise03Write::lastSpare);
    s.test(3, LEFT, "without a spare left, a sector without one is written on", Promise03Write::noneLeft);
    s.test(3, ORDER, "0 to 11, whatever address asks", Promise03Write::orderOfSpares);
    s.test(3, ORDER, "a spare that is worn, at WEAR and not ahead of it", Promise03Write::spareBehindASpare);
    s.test(3, THEN, "the number of the latest writing", Promise03Write::holdsTheNumber);
    s.test(3, THEN, "blur of 99 goes to 0", Promise03Write::blurGoes);
    s.test(3, THEN, "once more, on a spare from 0 on", Promise03Write::onceMore);
    s.test(3, THEN, "its sector: the one that it had keeps its writings and its blur", Promise03Write::oldSectorStays);
    s.test(3, "A sector holds nothing, or a number from 0 to 255", "0 is not nothing: it is heated", Promise03Write::zeroIsHeated);
  }

  private static void heat(Sentences s) {
    s.test(3, NO_SPARE, "writing on a spare heats nothing", Promise03Write::spareHeatsNothing);
    s.test(3, NO_SPARE, "the writing that gets a spare heats nothing, the one before does", Promise03Write::firstOnASpare);
    s.test(3, BESIDE, "both of them, and not itself", due -> heated(due, 7, 5, 0));
    s.test(3, BESIDE, "HEAT 20 and FAR 0", due -> heated(due, 7, 20, 0));
    s.test(3, BESIDE, "the same number: not those next to it", Promise03Write::sameNumber);
    s.test(3, AWAY, "both of them, and none three away", due -> heated(due, 7, 0, 3));
    s.test(3, AWAY, "HEAT 5 and FAR 20", due -> heated(due, 8, 5, 20));
    for (int track : new int[] {0, 1, 2, 13, 14, 15}) {
      s.test(3, TRACKS, "at the edge: the track " + track, due -> heated(due, track, 5, 3));
    }
    s.test(3, TRACKS, "a spare beside the tracks 14 and 15 is not heated", Promise03Write::spareIsNotHeated);
    s.test(3, TRACKS, "what holds nothing gets no blur", Promise03Write::emptyIsNotHeated);
    s.test(3, IN_USE, "what an address has left for a spare gets no more", Promise03Write::leftIsNotHeated);
    s.test(3, MOST_BLUR, "98 and 1 are 99, and 99 stays", due -> mostBlur(due, HEAT, FAR, 12));
    s.test(3, MOST_BLUR, "also by FAR", due -> mostBlur(due, FAR, HEAT, 24));
    s.test(3, MOST_BLUR, "80 and 20 are 99", Promise03Write::mostBlurFarBeyond);
  }

  private static void toOneAddress(Due due) {
    Run x = due.fresh();
    x.write(30, 77);
    for (int address = 0; address < 192; address++) {
      final int a = address;
      due.is("sector(" + a + ", 2)", x.probe(o -> o.sector(a, HOLDS)), a == 30 ? 77 : NONE);
      due.is("sector(" + a + ", 4)", x.probe(o -> o.sector(a, TIMES)), a == 30 ? 1 : 0);
    }
    x.write(30, 78);
    due.is(x.sector(30, HOLDS), 78);
    due.is(x.count(FILLED), 1);
    due.is(x.count(WRITINGS), 2);
  }

  private static void numberTaken(Due due, int number) {
    Run x = due.fresh();
    due.is(x.write(0, number), 1);
    due.is(x.sector(0, HOLDS), number);
    due.is(x.read(0), number);
    due.is(x.count(FILLED), 1);
  }

  private static void leastTicks(Due due) {
    Run x = due.fresh();
    due.is(x.write(0, 1), 1);
    due.is(x.write(1, 1), 1);
    due.is(x.write(1, 1), 12);
    due.is(x.write(1, 1), 12);
    due.is(x.write(0, 1), 11);
    // At 37 to the track 2 at 41; the sector 5 is under the head there.
    due.is(x.write(29, 1), 5);
    due.is(x.count(TICKS), 42);
  }

  private static void mostTicks(Due due) {
    Run x = due.fresh();
    x.set(STEP, 20);
    x.set(WEAR, 1);
    x.write(70, 1);
    x.seek(0);
    // At the tick t, 320 steps on, the spare 0 has just gone by, if t + 320 left over by 12 is 1.
    x.idle(12 + (1 - (x.count(TICKS) + 320) % 12 + 12) % 12);
    due.is(x.write(70, 2), 320 + 11 + 1);
    due.is(x.count(HEAD), 16);
  }

  private static void ticksToASpare(Due due) {
    Run x = due.fresh();
    x.set(WEAR, 1);
    due.is(x.write(0, 1), 1);
    // At 1 to the track 16 at 33, the sector 0 at 36.
    due.is(x.write(0, 2), 32 + 3 + 1);
    due.is(x.count(HEAD), 16);
    due.is(x.count(TICKS), 37);
    due.is(x.write(0, 3), 1);
  }

  private static void firstAndLastAddress(Due due) {
    Run x = due.fresh();
    due.is(x.write(0, 4), 1);
    due.is(x.write(191, 5), 30 + 4 + 1);
    due.is(x.sector(0, HOLDS), 4);
    due.is(x.sector(191, HOLDS), 5);
    due.is(x.count(FILLED), 2);
  }

  private static void bothErrors(Due due) {
    due.refused(due.busy(), NO_SUCH, x -> x.write(192, 256));
    due.refused(due.busy(), NO_SUCH, x -> x.write(-1, -1));
  }

  private static void atWear(Due due) {
    Run x = due.fresh();
    x.set(WEAR, 3);
    x.write(50, 1);
    x.write(50, 2);
    x.write(50, 3);
    due.is(x.sector(50, HAS_SPARE), 0);
    due.is(x.sector(50, TIMES), 3);
    due.is(x.count(SPARES), 12);
    x.write(50, 4);
    due.is(x.sector(50, HAS_SPARE), 1);
    due.is(x.sector(50, TRACK), 16);
    due.is(x.sector(50, TIMES), 1);
    due.is(x.count(SPARES), 11);
  }

  private static void wear1(Due due) {
    Run x = due.fresh();
    x.set(WEAR, 1);
    x.write(191, 1);
    due.is(x.sector(191, HAS_SPARE), 0);
    x.write(191, 1);
    due.is(x.sector(191, HAS_SPARE), 1);
  }

  private static void wear20(Due due) {
    Run x = due.fresh();
    for (int i = 0; i < 20; i++) x.write(7, i);
    due.is(x.sector(7, HAS_SPARE), 0);
    x.write(7, 20);
    due.is(x.sector(7, HAS_SPARE), 1);
  }

  private static void wear99(Due due) {
    Run x = due.fresh();
    x.set(WEAR, 99);
    for (int i = 0; i < 99; i++) x.write(7, i);
    due.is(x.sector(7, HAS_SPARE), 0);
    due.is(x.sector(7, TIMES), 99);
    x.write(7, 99);
    due.is(x.sector(7, HAS_SPARE), 1);
  }

  private static void aboveWear(Due due) {
    Run x = due.fresh();
    for (int i = 0; i < 5; i++) x.write(7, i);
    x.set(WEAR, 3);
    due.is(x.sector(7, HAS_SPARE), 0);
    x.write(7, 5);
    due.is(x.sector(7, HAS_SPARE), 1);
  }

  private static void itsOwnSector(Due due) {
    Run x = due.fresh();
    x.set(WEAR, 2);
    x.write(60, 1);
    x.write(60, 2);
    for (int address : new int[] {48, 72, 59, 61, 0}) {
      x.write(address, 1);
      due.is(x.sector(address, HAS_SPARE), 0);
    }
    due.is(x.count(SPARES), 12);
  }

  private static void lastSpare(Due due) {
    Run x = due.fresh();
    x.set(WEAR, 1);
    for (int i = 0; i <= 11; i++) x.write(70, i);
    due.is(x.sector(70, PLACE), 10);
    due.is(x.count(SPARES), 1);
    x.write(70, 12);
    due.is(x.sector(70, PLACE), 11);
    due.is(x.sector(70, TIMES), 1);
    due.is(x.count(SPARES), 0);
    x.write(70, 13);
    due.is(x.sector(70, TRACK), 16);
    due.is(x.sector(70, PLACE), 11);
    due.is(x.sector(70, TIMES), 2);
    due.is(x.sector(70, HOLDS), 13);
    due.is(x.count(SPARES), 0);
  }

  private static void noneLeft(Due due) {
    Run x = due.fresh();
    x.set(WEAR, 1);
    for (int i = 0; i <= 12; i++) x.write(70, i);
    x.write(5, 1);
    x.write(17, 1);
    x.write(5, 2);
    due.is(x.sector(5, HAS_SPARE), 0);
    due.is(x.sector(5, TRACK), 0);
    due.is(x.sector(5, TIMES), 2);
    due.is(x.sector(17, BLUR), 4);
  }

  private static void orderOfSpares(Due due) {
    Run x = due.fresh();
    x.set(WEAR, 1);
    int[] addresses = {191, 0, 100, 5, 6, 187, 31, 30, 32, 77, 12, 180};
    for (int address : addresses) x.write(address, 1);
    due.is(x.count(SPARES), 12);
    for (int i = 0; i < 12; i++) {
      x.write(addresses[i], 2);
      due.is(x.sector(addresses[i], TRACK), 16);
      due.is(x.sector(addresses[i], PLACE), i);
    }
    due.is(x.count(SPARES), 0);
  }

  private static void spareBehindASpare(Due due) {
    Run x = due.fresh();
    x.set(WEAR, 2);
    for (int i = 0; i < 4; i++) x.write(9, i);
    due.is(x.sector(9, PLACE), 0);
    due.is(x.sector(9, TIMES), 2);
    due.is(x.count(SPARES), 11);
    x.write(9, 4);
    due.is(x.sector(9, PLACE), 1);
    due.is(x.sector(9, TIMES), 1);
    due.is(x.count(SPARES), 10);
    due.is(x.track(16, FILLED_ON), 1);
  }

  private static void holdsTheNumber(Due due) {
    Run x = due.fresh();
    for (int number : new int[] {255, 0, 128, 1}) {
      x.write(100, number);
      due.is(x.sector(100, HOLDS), number);
    }
    x.set(WEAR, 1);
    x.write(100, 33);
    due.is(x.sector(100, HOLDS), 33);
    due.is(x.sector(100, HAS_SPARE), 1);
  }

  private static void blurGoes(Due due) {
    Run x = due.fresh();
    x.set(HEAT, 20);
    x.write(0, 1);
    for (int i = 0; i < 5; i++) x.write(12, i);
    due.is(x.sector(0, BLUR), 99);
    due.is(x.sector(0, READABLE), 0);
    x.write(0, 2);
    due.is(x.sector(0, BLUR), 0);
    due.is(x.sector(0, READABLE), 1);
    due.is(x.sector(0, HOLDS), 2);
  }

  private static void onceMore(Due due) {
    Run x = due.fresh();
    x.set(WEAR, 3);
    for (int i = 1; i <= 6; i++) {
      x.write(40, 1);
      due.is(x.sector(40, TIMES), i <= 3 ? i : i - 3);
      due.is(x.count(WRITINGS), i);
    }
  }

  private static void oldSectorStays(Due due) {
    Run x = due.fresh();
    x.write(48, 1);
    x.write(60, 1);
    x.write(60, 1);
    x.set(WEAR, 1);
    x.write(48, 2);
    due.is(x.sector(48, BLUR), 0);
    due.is(x.track(4, BLUR_ON), 8);
    due.is(x.track(4, WRITINGS_ON), 1);
    due.is(x.track(16, WRITINGS_ON), 1);
  }

  private static void zeroIsHeated(Due due) {
    Run x = due.fresh();
    x.write(0, 0);
    x.write(12, 0);
    due.is(x.sector(0, BLUR), 4);
    due.is(x.sector(0, HOLDS), 0);
  }

  private static void spareHeatsNothing(Due due) {
    Run x = due.fresh();
    // The spare 0 is the sector 0 of the track 16: 168 and 180 lie ahead of it.
    int[] beside = {72, 84, 108, 120, 156, 168, 180};
    x.write(96, 1);
    x.set(WEAR, 1);
    x.write(96, 2);
    x.set(WEAR, 99);
    for (int address : beside) x.write(address, 1);
    int[] before = new int[beside.length];
    for (int i = 0; i < beside.length; i++) before[i] = x.sector(beside[i], BLUR);
    x.write(96, 3);
    x.write(96, 4);
    for (int i = 0; i < beside.length; i++) due.is(x.sector(beside[i], BLUR), before[i]);
    due.is(x.sector(96, TIMES), 3);
  }

  private static void firstOnASpare(Due due) {
    Run x = due.fresh();
    x.write(84, 1);
    x.write(108, 1);
    x.set(WEAR, 2);
    x.write(96, 1);
    due.is(x.sector(84, BLUR), 1 + 4);
    x.write(96, 2);
    due.is(x.sector(84, BLUR), 1 + 4 + 4);
    due.is(x.sector(108, BLUR), 4 + 4);
    x.write(96, 3);
    due.is(x.sector(84, BLUR), 1 + 4 + 4);
    due.is(x.sector(108, BLUR), 4 + 4);
  }

  /** The sector 6 of every track holds something; then one of them is written. */
  private static void heated(Due due, int written, int heat, int far) {
    Run x = due.fresh();
    x.set(HEAT, 0);
    x.set(FAR, 0);
    for (int track = 0; track < 16; track++) x.write(track * 12 + 6, 1);
    x.set(HEAT, heat);
    x.set(FAR, far);
    x.write(written * 12 + 6, 2);
    for (int track = 0; track < 16; track++) {
      int apart = Math.abs(track - written);
      due.is(x.sector(track * 12 + 6, BLUR), apart == 1 ? heat : apart == 2 ? far : 0);
      due.is(x.track(track, BLUR_ON), apart == 1 ? heat : apart == 2 ? far : 0);
    }
    due.is(x.track(16, BLUR_ON), 0);
  }

  private static void sameNumber(Due due) {
    Run x = due.fresh();
    x.set(HEAT, 0);
    x.set(FAR, 0);
    for (int track = 5; track <= 9; track++) {
      for (int number = 0; number < 12; number++) x.write(track * 12 + number, 1);
    }
    x.set(HEAT, 5);
    x.set(FAR, 3);
    for (int number : new int[] {0, 11}) {
      x.write(7 * 12 + number, 2);
      for (int track = 5; track <= 9; track++) {
        int want = track == 7 ? 0 : track == 6 || track == 8 ? 5 : 3;
        for (int other = 0; other < 12; other++) {
          boolean isBeside = other == 0 || other == 11 && number == 11;
          due.is(x.sector(track * 12 + other, BLUR), isBeside ? want : 0);
        }
      }
    }
  }

  private static void spareIsNotHeated(Due due) {
    Run x = due.fresh();
    x.write(96, 1);
    x.set(WEAR, 1);
    x.write(96, 2);
    x.write(168, 1);
    x.write(180, 1);
    due.is(x.sector(96, PLACE), 0);
    due.is(x.sector(96, BLUR), 0);
    due.is(x.track(16, BLUR_ON), 0);
    due.is(x.sector(168, BLUR), 4);
  }

  private static void emptyIsNotHeated(Due due) {
    Run x = due.fresh();
    for (int i = 0; i < 3; i++) x.write(96, 1);
    for (int address : new int[] {72, 84, 108, 120}) {
      due.is(x.sector(address, BLUR), 0);
      due.is(x.sector(address, HOLDS), NONE);
    }
    for (int track = 0; track <= 16; track++) due.is(x.track(track, BLUR_ON), 0);
    due.is(x.count(GREATEST_BLUR), 0);
  }

  private static void leftIsNotHeated(Due due) {
    Run x = due.fresh();
    x.write(96, 1);
    x.write(84, 1);
    due.is(x.track(8, BLUR_ON), 4);
    x.set(WEAR, 1);
    x.write(96, 2);
    x.set(WEAR, 99);
    x.write(84, 2);
    x.write(108, 2);
    x.write(72, 2);
    x.write(120, 2);
    due.is(x.track(8, BLUR_ON), 4);
    due.is(x.sector(96, BLUR), 0);
    due.is(x.sector(84, BLUR), 4 + 1);
  }

  private static void mostBlur(Due due, int setting, int otherSetting, int beside) {
    Run x = due.fresh();
    x.set(WEAR, 99);
    x.set(otherSetting, 0);
    x.set(setting, 14);
    x.write(0, 1);
    for (int i = 1; i <= 7; i++) x.write(beside, i);
    due.is(x.sector(0, BLUR), 98);
    x.set(setting, 1);
    x.write(beside, 1);
    due.is(x.sector(0, BLUR), 99);
    x.write(beside, 1);
    due.is(x.sector(0, BLUR), 99);
    x.set(setting, 20);
    x.write(beside, 1);
    due.is(x.sector(0, BLUR), 99);
    due.is(x.track(0, BLUR_ON), 99);
    due.is(x.count(GREATEST_BLUR), 99);
  }

  private static void mostBlurFarBeyond(Due due) {
    Run x = due.fresh();
    x.set(HEAT, 20);
    x.write(0, 1);
    for (int i = 1; i <= 4; i++) x.write(12, i);
    due.is(x.sector(0, BLUR), 80);
    x.write(12, 5);
    due.is(x.sector(0, BLUR), 99);
  }
}
