/** Promise 15: worst. */
public final class Promise15Worst implements Codes {
  private static final String FINDS = "Finds the address that holds something, can be read, and has the greatest blur; of several the lowest.";

  public static void main(String[] args) {
    Sentences s = new Sentences();
    s.test(15, FINDS, "holds something: also without blur", Promise15Worst::withoutBlur);
    s.test(15, FINDS, "the greatest blur, by 1", Promise15Worst::greatest);
    s.test(15, FINDS, "can be read: not at LOST, but at LOST - 1", Promise15Worst::canBeRead);
    s.test(15, FINDS, "of several the lowest, with blur and without", Promise15Worst::lowest);
    s.test(15, FINDS, "0 and 191", Promise15Worst::firstAndLast);
    s.test(15, FINDS, "on a spare it counts by its address and its spare's blur", Promise15Worst::spares);
    s.test(15, FINDS, "nothing changes", due -> due.unchanged(due.busy(), x -> due.is(x.worst(), 36)));
    s.test(15, "Returns the address; NONE if there is none", "nothing is written", due -> due.is(due.fresh().worst(), NONE));
    s.test(15, "NONE if there is none", "the disc is empty again", Promise15Worst::emptyAgain);
    s.test(15, "NONE if there is none", "all but one cannot be read: it is that one", Promise15Worst::oneIsLeft);
    s.end();
  }

  private static void withoutBlur(Due due) {
    Run x = due.fresh();
    due.is(x.worst(), NONE);
    x.write(100, 0);
    due.is(x.worst(), 100);
  }

  private static void greatest(Due due) {
    Run x = due.fresh();
    x.write(60, 1);
    x.write(30, 1);
    x.set(HEAT, 8);
    x.write(42, 1);
    x.set(HEAT, 9);
    x.write(72, 1);
    due.is(x.sector(30, BLUR), 8);
    due.is(x.sector(60, BLUR), 9);
    due.is(x.worst(), 60);
    x.set(HEAT, 2);
    x.write(42, 1);
    due.is(x.worst(), 30);
  }

  private static void canBeRead(Due due) {
    Run x = due.fresh();
    x.write(0, 1);
    x.write(12, 1);
    x.write(24, 1);
    x.write(12, 1);
    // 0 has 4 + 1 + 4, 12 has 0, 24 has 4.
    x.set(LOST, 10);
    due.is(x.worst(), 0);
    x.set(LOST, 9);
    due.is(x.worst(), 24);
    x.set(LOST, 5);
    due.is(x.worst(), 24);
    x.set(HEAT, 1);
    x.write(12, 1);
    due.is(x.worst(), 12);
  }

  private static void lowest(Due due) {
    Run x = due.fresh();
    for (int address : new int[] {191, 100, 7}) {
      x.write(address, 1);
      due.is(x.worst(), address);
    }
    x.write(112, 1);
    due.is(x.worst(), 100);
    x.write(19, 1);
    due.is(x.worst(), 7);
    x.write(112, 1);
    x.write(19, 1);
    x.write(179, 1);
    x.write(179, 1);
    due.is(x.sector(7, BLUR), 8);
    due.is(x.sector(191, BLUR), 8);
    due.is(x.worst(), 7);
  }

  private static void firstAndLast(Due due) {
    for (int address : new int[] {0, 191}) {
      Run x = due.fresh();
      x.write(100, 1);
      x.write(address, 1);
      x.write(address == 0 ? 12 : 179, 1);
      due.is(x.worst(), address);
    }
  }

  private static void spares(Due due) {
    Run x = due.fresh();
    x.write(48, 1);
    x.write(60, 1);
    x.write(60, 1);
    x.write(100, 1);
    x.write(112, 1);
    due.is(x.worst(), 48);
    x.set(WEAR, 1);
    x.write(48, 1);
    due.is(x.worst(), 100);
    x.write(100, 1);
    due.is(x.worst(), 48);
  }

  /** What was written last has no blur, so that NONE is left to a disc that holds nothing. */
  private static void emptyAgain(Due due) {
    Run x = due.fresh();
    x.save(0);
    x.write(191, 1);
    due.is(x.worst(), 191);
    x.undo();
    due.is(x.worst(), NONE);
    x.write(0, 1);
    due.is(x.worst(), 0);
    x.restore(0);
    due.is(x.worst(), NONE);
  }

  private static void oneIsLeft(Due due) {
    Run x = due.fresh();
    x.set(HEAT, 20);
    x.set(LOST, 5);
    x.write(0, 1);
    x.write(24, 1);
    x.write(12, 1);
    due.is(x.count(UNREADABLE), 2);
    due.is(x.worst(), 12);
  }
}
