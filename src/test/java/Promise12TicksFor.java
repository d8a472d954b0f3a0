/** Promise 12: ticksFor; and how long a request takes. */
public final class Promise12TicksFor implements Codes {
  private static final String STEPS = "A request for a sector takes STEP ticks for each track by which the head must go";
  private static final String WAITS = "then as many ticks as it takes until the sector is under the head (0, if it is)";
  private static final String DONE = "then 1 tick more, in which it is written or read";
  private static final String TELLS =
      "Tells how many ticks a request for an address would take now (for writing, with the spare that it would get).";

  public static void main(String[] args) {
    Sentences s = new Sentences();
    s.test(12, STEPS, "none on the same track, 15 or 16 at most, forth and back", Promise12TicksFor::steps);
    s.test(12, STEPS, "STEP 0 and STEP 20", Promise12TicksFor::leastAndMostStep);
    s.test(12, WAITS, "0 to 11", Promise12TicksFor::waits);
    s.test(12, WAITS, "from where the disc has turned to while the head went", Promise12TicksFor::waitsBehindSteps);
    s.test(12, WAITS, "0 behind a step, 11 if it has just gone by", Promise12TicksFor::waitsBehindOneStep);
    s.test(12, DONE, "1 alone, if nothing else is needed", Promise12TicksFor::oneMore);
    s.test(12, TELLS, "at WEAR, and one writing ahead of it", Promise12TicksFor::atWear);
    s.test(12, TELLS, "for reading, the sector that it has", Promise12TicksFor::forReading);
    s.test(12, TELLS, "without a spare left, the sector that it has", Promise12TicksFor::withoutSpares);
    s.test(12, TELLS, "also of what holds nothing or cannot be read", Promise12TicksFor::whatCannotBeRead);
    s.test(12, TELLS, "as many as write() and read() take then", Promise12TicksFor::asTheyTake);
    s.test(12, TELLS, "nothing changes", due -> due.unchanged(due.busy(), x -> {
      x.ticksFor(24, true);
      x.ticksFor(24, false);
      x.ticksFor(191, true);
    }));
    s.test(12, "Returns the ticks; NO_SUCH if there is no such address", "0 and 191 are addresses", Promise12TicksFor::firstAndLast);
    for (int address : new int[] {-1, 192, 203, LEAST, MOST}) {
      s.test(12, "NO_SUCH if there is no such address", address + " is none", due -> {
        due.refused(due.busy(), NO_SUCH, x -> x.ticksFor(address, true));
        due.refused(due.busy(), NO_SUCH, x -> x.ticksFor(address, false));
      });
    }
    s.end();
  }

  private static void both(Due due, Run x, int address, int want) {
    due.is(x.ticksFor(address, false), want);
    due.is(x.ticksFor(address, true), want);
  }

  private static void steps(Due due) {
    Run x = due.fresh();
    x.set(STEP, 12);
    for (int track = 0; track < 16; track++) both(due, x, track * 12, 12 * track + 1);
    x.seek(16);
    for (int track = 0; track < 16; track++) both(due, x, track * 12, 12 * (16 - track) + 1);
    x.seek(7);
    both(due, x, 7 * 12, 1);
    both(due, x, 6 * 12, 13);
    both(due, x, 8 * 12, 13);
  }

  private static void leastAndMostStep(Due due) {
    Run x = due.fresh();
    x.set(STEP, 0);
    both(due, x, 180, 1);
    both(due, x, 191, 12);
    x.set(STEP, 20);
    both(due, x, 180, 300 + 0 + 1);
    both(due, x, 12, 20 + 4 + 1);
  }

  private static void waits(Due due) {
    for (int tick = 0; tick < 12; tick++) {
      Run x = due.fresh();
      if (tick > 0) x.idle(tick);
      for (int sector = 0; sector < 12; sector++) both(due, x, sector, (sector - tick + 12) % 12 + 1);
    }
  }

  private static void waitsBehindSteps(Due due) {
    Run x = due.fresh();
    // Thirteen tracks are 26 ticks: the sector 2 is under the head.
    both(due, x, 13 * 12 + 2, 26 + 0 + 1);
    both(due, x, 13 * 12 + 3, 26 + 1 + 1);
    both(due, x, 13 * 12 + 1, 26 + 11 + 1);
    both(due, x, 13 * 12, 26 + 10 + 1);
  }

  private static void waitsBehindOneStep(Due due) {
    Run x = due.fresh();
    both(due, x, 14, 2 + 0 + 1);
    both(due, x, 13, 2 + 11 + 1);
    both(due, x, 12, 2 + 10 + 1);
    both(due, x, 23, 2 + 9 + 1);
  }

  private static void oneMore(Due due) {
    Run x = due.fresh();
    both(due, x, 0, 1);
    x.idle(11);
    both(due, x, 11, 1);
    x.idle(1);
    both(due, x, 0, 1);
  }

  private static void atWear(Due due) {
    Run x = due.fresh();
    x.set(WEAR, 2);
    x.write(0, 1);
    both(due, x, 0, 12);
    x.write(0, 1);
    due.is(x.ticksFor(0, false), 12);
    // At 13 to the track 16 at 45, the spare 0 at 48.
    due.is(x.ticksFor(0, true), 32 + 3 + 1);
    x.write(0, 1);
    due.is(x.ticksFor(0, true), 12);
    x.write(0, 1);
    due.is(x.ticksFor(0, true), 1);
  }

  private static void forReading(Due due) {
    Run x = due.fresh();
    x.set(WEAR, 1);
    x.write(100, 1);
    due.is(x.ticksFor(100, false), 12);
    x.write(100, 1);
    due.is(x.ticksFor(100, false), 12);
    x.seek(0);
    int under = x.count(UNDER_HEAD);
    due.is(x.ticksFor(100, false), 32 + (12 - (under + 32) % 12) % 12 + 1);
  }

  private static void withoutSpares(Due due) {
    Run x = due.fresh();
    x.set(WEAR, 1);
    x.write(5, 1);
    for (int i = 0; i <= 11; i++) x.write(70, 1);
    // The spare 11 is left: the sector 11 is under the head.
    due.is(x.count(UNDER_HEAD), 11);
    due.is(x.ticksFor(70, true), 1);
    x.write(70, 1);
    due.is(x.ticksFor(70, true), 12);
    x.seek(0);
    due.is(x.ticksFor(5, true), x.ticksFor(5, false));
    due.is(x.ticksFor(5, true), 10);
  }

  private static void whatCannotBeRead(Due due) {
    Run x = due.busy();
    due.is(x.sector(12, READABLE), 0);
    due.is(x.ticksFor(12, false) > 0 ? 1 : 0, 1);
    due.is(x.ticksFor(100, false) > 0 ? 1 : 0, 1);
    Run y = due.fresh();
    due.is(y.ticksFor(5, false), 6);
  }

  private static void asTheyTake(Due due) {
    Run x = due.fresh();
    x.set(WEAR, 2);
    x.set(STEP, 3);
    for (int i = 0; i < 60; i++) {
      int address = i * 37 % 192 % 40;
      int ticks = x.ticksFor(address, true);
      due.is(x.write(address, 1), ticks);
      int before = x.count(TICKS);
      ticks = x.ticksFor(address, false);
      x.read(address);
      due.is(x.count(TICKS) - before, ticks);
    }
  }

  private static void firstAndLast(Due due) {
    Run x = due.fresh();
    both(due, x, 0, 1);
    both(due, x, 191, 30 + 5 + 1);
  }
}
