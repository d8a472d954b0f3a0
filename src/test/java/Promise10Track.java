/** Promise 10: track. */
public final class Promise10Track implements Codes {
  private static final String BLUR_SUM = "2 the sum of the blurs of all its sectors (also of those in use no more)";

  public static void main(String[] args) {
    Sentences s = new Sentences();
    s.test(10, "0 addresses on it that hold something", "0 to 12, the number 0 too", Promise10Track::filled);
    s.test(10, "0 addresses on it that hold something", "what has a spare is on the track 16", Promise10Track::filledSpares);
    s.test(10, "0 addresses on it that hold something", "twelve on the track 16, and also on all others", Promise10Track::full);
    s.test(10, "1 those of them that cannot be read", "at LOST, not below it", Promise10Track::unreadable);
    s.test(10, "1 those of them that cannot be read", "not what holds nothing, nor what is in use no more", Promise10Track::unreadableInUse);
    s.test(10, BLUR_SUM, "all twelve", Promise10Track::blurOfAll);
    s.test(10, BLUR_SUM, "of a sector in use no more", Promise10Track::blurInUseNoMore);
    s.test(10, "3 writings on it so far", "of all its sectors, also of those in use no more", Promise10Track::writings);
    s.test(10, "3 writings on it so far", "on the track 16, those of all spares", Promise10Track::writingsOnSpares);
    s.test(10, "Returns the number", "all four of five tracks", Promise10Track::allFour);
    s.test(10, "Returns something about a track.", "nothing changes", due -> due.unchanged(due.busy(), x -> {
      for (int what = -1; what <= 4; what++) x.track(2, what);
    }));
    s.test(10, "NO_SUCH if track is not 0 to 16", "0 and 16 are tracks", Promise10Track::firstAndLastTrack);
    for (int track : new int[] {-1, 17, LEAST, MOST}) {
      s.test(10, "NO_SUCH if track is not 0 to 16", track + " is none", due -> {
        for (int what = 0; what <= 3; what++) {
          final int w = what;
          due.refused(due.busy(), NO_SUCH, x -> x.track(track, w));
        }
      });
    }
    s.test(10, "BAD_VALUE if what is out of range", "0 and 3 are taken", Promise10Track::firstAndLastWhat);
    for (int what : new int[] {-1, 4, LEAST, MOST}) {
      s.test(10, "BAD_VALUE if what is out of range", what + " is refused", due -> {
        due.refused(due.busy(), BAD_VALUE, x -> x.track(0, what));
        due.refused(due.busy(), BAD_VALUE, x -> x.track(16, what));
      });
    }
    s.test(10, "it names its errors in the order in which they are checked, and the first one that applies is returned",
        "no such track and no such what: NO_SUCH", due -> {
          due.refused(due.busy(), NO_SUCH, x -> x.track(17, 4));
          due.refused(due.busy(), NO_SUCH, x -> x.track(-1, -1));
        });
    s.end();
  }

  private static void about(Due due, Run x, int track, int... wants) {
    for (int what = 0; what < wants.length; what++) due.is(x.track(track, what), wants[what]);
  }

  private static void allFour(Due due) {
    Run x = due.busy();
    about(due, x, 0, 0, 0, 0, 0);
    about(due, x, 1, 1, 1, 20, 1);
    about(due, x, 2, 0, 0, 0, 3);
    about(due, x, 3, 1, 0, 12, 1);
    about(due, x, 16, 1, 0, 0, 1);
  }

  private static void filled(Due due) {
    for (int track : new int[] {0, 7, 15}) {
      Run x = due.fresh();
      for (int number = 0; number < 12; number++) {
        due.is(x.track(track, FILLED_ON), number);
        x.write(track * 12 + number, 0);
      }
      x.write(track * 12, 1);
      due.is(x.track(track, FILLED_ON), 12);
      for (int other = 0; other <= 16; other++) {
        if (other != track) due.is(x.track(other, FILLED_ON), 0);
      }
    }
  }

  private static void filledSpares(Due due) {
    Run x = due.fresh();
    x.set(WEAR, 1);
    x.write(30, 1);
    x.write(31, 1);
    due.is(x.track(2, FILLED_ON), 2);
    due.is(x.track(16, FILLED_ON), 0);
    x.write(30, 2);
    due.is(x.track(2, FILLED_ON), 1);
    due.is(x.track(16, FILLED_ON), 1);
    x.write(30, 3);
    due.is(x.track(16, FILLED_ON), 1);
  }

  private static void full(Due due) {
    Run x = due.fresh();
    x.set(WEAR, 1);
    for (int address = 0; address < 192; address++) x.write(address, 1);
    for (int track = 0; track < 16; track++) due.is(x.track(track, FILLED_ON), 12);
    due.is(x.track(16, FILLED_ON), 0);
    for (int address = 36; address < 48; address++) x.write(address, 2);
    due.is(x.track(3, FILLED_ON), 0);
    due.is(x.track(16, FILLED_ON), 12);
    due.is(x.track(3, WRITINGS_ON), 12);
  }

  private static void unreadable(Due due) {
    for (int address : new int[] {0, 11, 180, 191}) {
      int track = address / 12;
      Run x = due.fresh();
      x.write(address, 1);
      x.write(track == 0 ? address + 12 : address - 12, 1);
      x.write(track == 0 ? address + 12 : address - 12, 1);
      x.set(LOST, 9);
      due.is(x.track(track, UNREADABLE_ON), 0);
      x.set(LOST, 8);
      due.is(x.track(track, UNREADABLE_ON), 1);
      due.is(x.track(track, FILLED_ON), 1);
      due.is(x.count(UNREADABLE), 1);
    }
  }

  private static void unreadableInUse(Due due) {
    Run x = due.fresh();
    x.set(LOST, 5);
    x.write(48, 1);
    x.write(60, 1);
    x.write(60, 1);
    about(due, x, 4, 1, 1, 8, 1);
    x.set(WEAR, 1);
    x.write(48, 2);
    about(due, x, 4, 0, 0, 8, 1);
    about(due, x, 16, 1, 0, 0, 1);
    about(due, x, 3, 0, 0, 0, 0);
  }

  private static void blurOfAll(Due due) {
    Run x = due.fresh();
    x.set(HEAT, 20);
    for (int number = 0; number < 12; number++) x.write(24 + number, 1);
    int sum = 0;
    for (int number = 0; number < 12; number++) {
      x.write(36 + number, 1);
      sum += 20;
      due.is(x.track(2, BLUR_ON), sum);
    }
    due.is(x.track(3, BLUR_ON), 0);
    x.write(24, 1);
    due.is(x.track(2, BLUR_ON), 220);
    due.is(x.track(3, BLUR_ON), 20);
  }

  private static void blurInUseNoMore(Due due) {
    Run x = due.fresh();
    x.write(48, 1);
    x.write(60, 1);
    x.write(49, 1);
    x.write(61, 1);
    due.is(x.track(4, BLUR_ON), 8);
    x.set(WEAR, 1);
    x.write(48, 2);
    due.is(x.track(4, BLUR_ON), 8);
    x.set(WEAR, 99);
    x.write(49, 2);
    due.is(x.track(4, BLUR_ON), 4);
    due.is(x.track(16, BLUR_ON), 0);
  }

  private static void writings(Due due) {
    Run x = due.fresh();
    x.set(WEAR, 3);
    for (int i = 0; i < 5; i++) x.write(191, 1);
    x.write(180, 1);
    due.is(x.track(15, WRITINGS_ON), 4);
    due.is(x.track(16, WRITINGS_ON), 2);
    due.is(x.track(14, WRITINGS_ON), 0);
    x.read(180);
    due.is(x.track(15, WRITINGS_ON), 4);
    x.refresh(180);
    due.is(x.track(15, WRITINGS_ON), 5);
  }

  private static void writingsOnSpares(Due due) {
    Run x = due.fresh();
    x.set(WEAR, 1);
    for (int i = 0; i < 20; i++) x.write(0, i);
    about(due, x, 0, 0, 0, 0, 1);
    about(due, x, 16, 1, 0, 0, 19);
  }

  private static void firstAndLastTrack(Due due) {
    Run x = due.fresh();
    x.set(WEAR, 1);
    x.write(0, 1);
    x.write(1, 1);
    x.write(1, 1);
    about(due, x, 0, 1, 0, 0, 2);
    about(due, x, 16, 1, 0, 0, 1);
  }

  private static void firstAndLastWhat(Due due) {
    Run x = due.fresh();
    x.write(13, 1);
    x.write(13, 1);
    due.is(x.track(1, 0), 1);
    due.is(x.track(1, 3), 2);
  }
}
