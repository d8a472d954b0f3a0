/** Promise 9: sector; and how addresses are numbered. */
public final class Promise09Sector implements Codes {
  private static final String ADDRESS =
      "the address a, 0 to 191, is that of the sector a left over by 12 of the track a / 12, as long as it has no spare";
  private static final String THEN = "then of that spare (a sector of the track 16)";

  public static void main(String[] args) {
    Sentences s = new Sentences();
    s.test(9, ADDRESS, "every address", Promise09Sector::everyAddress);
    s.test(9, THEN, "the first and the last spare", Promise09Sector::firstAndLastSpare);
    s.test(9, "Divisions are rounded down.", "11, 12 and 23, 24", Promise09Sector::roundedDown);
    s.test(9, "Everything is numbered from 0.", "the first sector of the first track", Promise09Sector::from0);
    s.test(9, "0 the track of its sector", "0 to 15, and 16 for a spare", Promise09Sector::tracks);
    s.test(9, "1 the number of its sector on it", "0 to 11", Promise09Sector::places);
    s.test(9, "2 what it holds (NONE)", "NONE, then 0, then 255", Promise09Sector::holds);
    s.test(9, "NONE (-6) is not an error; it is returned only if no error applies.",
        "no address that holds nothing: NO_SUCH", Promise09Sector::noneOrError);
    s.test(9, "3 its blur", "0 and 99, and that of a spare alone", Promise09Sector::blurs);
    s.test(9, "4 how often its sector was written", "the sector, not the address", Promise09Sector::times);
    s.test(9, "5 whether it has a spare (1 or 0)", "0, then 1 for ever", Promise09Sector::hasSpare);
    s.test(9, "6 whether it can be read (1 or 0)", "0 for nothing, 1 below LOST, 0 at LOST", Promise09Sector::readable);
    s.test(9, "Returns the number", "all seven of three addresses", Promise09Sector::allSeven);
    s.test(9, "Returns something about an address.", "nothing changes", due -> due.unchanged(due.busy(), x -> {
      for (int what = -1; what <= 7; what++) x.sector(24, what);
    }));
    s.test(9, "NO_SUCH if there is no such address", "0 and 191 are addresses", Promise09Sector::firstAndLastAddress);
    for (int address : new int[] {-1, 192, 203, 204, LEAST, MOST}) {
      s.test(9, "NO_SUCH if there is no such address", address + " is none", due -> {
        for (int what = 0; what <= 6; what++) {
          final int w = what;
          due.refused(due.busy(), NO_SUCH, x -> x.sector(address, w));
        }
      });
    }
    s.test(9, "BAD_VALUE if what is out of range", "0 and 6 are taken", Promise09Sector::firstAndLastWhat);
    for (int what : new int[] {-1, 7, 17, LEAST, MOST}) {
      s.test(9, "BAD_VALUE if what is out of range", what + " is refused",
          due -> due.refused(due.busy(), BAD_VALUE, x -> x.sector(12, what)));
    }
    s.test(9, "it names its errors in the order in which they are checked, and the first one that applies is returned",
        "no such address and no such what: NO_SUCH", Promise09Sector::bothErrors);
    s.end();
  }

  private static void everyAddress(Due due) {
    Run x = due.fresh();
    for (int address = 0; address < 192; address++) {
      due.is(x.sector(address, TRACK), address / 12);
      due.is(x.sector(address, PLACE), address % 12);
    }
  }

  private static void firstAndLastSpare(Due due) {
    Run x = due.fresh();
    x.set(WEAR, 1);
    x.write(191, 1);
    x.write(191, 2);
    due.is(x.sector(191, TRACK), 16);
    due.is(x.sector(191, PLACE), 0);
    for (int i = 0; i < 11; i++) x.write(191, 3);
    due.is(x.sector(191, TRACK), 16);
    due.is(x.sector(191, PLACE), 11);
    due.is(x.sector(190, TRACK), 15);
  }

  private static void roundedDown(Due due) {
    Run x = due.fresh();
    int[] addresses = {11, 12, 23, 24, 179, 180};
    int[] tracks = {0, 1, 1, 2, 14, 15};
    for (int i = 0; i < addresses.length; i++) due.is(x.sector(addresses[i], TRACK), tracks[i]);
  }

  private static void from0(Due due) {
    Run x = due.fresh();
    due.is(x.sector(0, TRACK), 0);
    due.is(x.sector(0, PLACE), 0);
    due.is(x.sector(191, TRACK), 15);
    due.is(x.sector(191, PLACE), 11);
  }

  private static void tracks(Due due) {
    Run x = due.fresh();
    x.set(WEAR, 1);
    x.write(0, 1);
    due.is(x.sector(0, TRACK), 0);
    x.write(0, 1);
    due.is(x.sector(0, TRACK), 16);
    due.is(x.sector(1, TRACK), 0);
    due.is(x.sector(191, TRACK), 15);
  }

  private static void places(Due due) {
    Run x = due.fresh();
    due.is(x.sector(0, PLACE), 0);
    due.is(x.sector(11, PLACE), 11);
    due.is(x.sector(12, PLACE), 0);
    x.set(WEAR, 1);
    x.write(11, 1);
    x.write(11, 1);
    due.is(x.sector(11, PLACE), 0);
    x.write(11, 1);
    due.is(x.sector(11, PLACE), 1);
  }

  private static void holds(Due due) {
    Run x = due.fresh();
    due.is(x.sector(77, HOLDS), NONE);
    x.write(77, 0);
    due.is(x.sector(77, HOLDS), 0);
    x.write(77, 255);
    due.is(x.sector(77, HOLDS), 255);
    due.is(x.sector(76, HOLDS), NONE);
    due.is(due.busy().sector(12, HOLDS), 1);
  }

  private static void noneOrError(Due due) {
    Run x = due.fresh();
    due.is(x.sector(191, HOLDS), NONE);
    due.is(x.sector(192, HOLDS), NO_SUCH);
    due.is(x.sector(-1, HOLDS), NO_SUCH);
    due.is(x.sector(191, -6), BAD_VALUE);
  }

  private static void blurs(Due due) {
    Run x = due.fresh();
    x.set(HEAT, 20);
    x.write(0, 1);
    due.is(x.sector(0, BLUR), 0);
    for (int i = 0; i < 5; i++) x.write(12, 1);
    due.is(x.sector(0, BLUR), 99);
    due.is(x.sector(24, BLUR), 0);
    x.set(WEAR, 1);
    x.write(0, 1);
    due.is(x.sector(0, BLUR), 0);
  }

  private static void times(Due due) {
    Run x = due.fresh();
    x.set(WEAR, 2);
    int[] wants = {1, 2, 1, 2, 1};
    for (int want : wants) {
      x.write(0, 1);
      due.is(x.sector(0, TIMES), want);
    }
    x.read(0);
    due.is(x.sector(0, TIMES), 1);
    due.is(x.sector(12, TIMES), 0);
  }

  private static void hasSpare(Due due) {
    Run x = due.fresh();
    x.set(WEAR, 1);
    due.is(x.sector(5, HAS_SPARE), 0);
    x.write(5, 1);
    due.is(x.sector(5, HAS_SPARE), 0);
    x.write(5, 1);
    due.is(x.sector(5, HAS_SPARE), 1);
    x.set(WEAR, 99);
    x.write(5, 1);
    due.is(x.sector(5, HAS_SPARE), 1);
    due.is(x.sector(17, HAS_SPARE), 0);
  }

  private static void readable(Due due) {
    Run x = due.fresh();
    due.is(x.sector(0, READABLE), 0);
    x.write(0, 0);
    due.is(x.sector(0, READABLE), 1);
    x.write(12, 1);
    x.write(12, 1);
    x.set(LOST, 9);
    due.is(x.sector(0, READABLE), 1);
    x.set(LOST, 8);
    due.is(x.sector(0, READABLE), 0);
    due.is(x.sector(12, READABLE), 1);
    due.is(x.sector(24, READABLE), 0);
    x.set(WEAR, 1);
    x.write(0, 1);
    due.is(x.sector(0, READABLE), 1);
  }

  private static void allSeven(Due due) {
    Run x = due.busy();
    int[][] rows = {{12, 1, 0, 1, 20, 1, 0, 0}, {24, 16, 0, 6, 0, 1, 1, 1}, {36, 3, 0, 3, 12, 1, 0, 1}, {191, 15, 11, NONE, 0, 0, 0, 0}};
    for (int[] row : rows) {
      for (int what = 0; what <= 6; what++) due.is(x.sector(row[0], what), row[what + 1]);
    }
  }

  private static void firstAndLastAddress(Due due) {
    Run x = due.fresh();
    x.write(0, 7);
    x.write(191, 8);
    due.is(x.sector(0, HOLDS), 7);
    due.is(x.sector(191, HOLDS), 8);
  }

  private static void firstAndLastWhat(Due due) {
    Run x = due.fresh();
    x.write(30, 7);
    due.is(x.sector(30, 0), 2);
    due.is(x.sector(30, 6), 1);
  }

  private static void bothErrors(Due due) {
    due.refused(due.busy(), NO_SUCH, x -> x.sector(192, 7));
    due.refused(due.busy(), NO_SUCH, x -> x.sector(-1, -1));
  }
}
