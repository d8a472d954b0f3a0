/** Promise 21: restore. */
public final class Promise21Restore implements Codes {
  private static final String RESTORES = "Restores what was saved last in a slot, which keeps it.";

  public static void main(String[] args) {
    Sentences s = new Sentences();
    s.test(21, RESTORES, "settings, sectors, spares, head, ticks and reads", Promise21Restore::everything);
    s.test(21, RESTORES, "what was saved last, not what was saved first", Promise21Restore::savedLast);
    s.test(21, RESTORES, "the slot keeps it, whatever changes behind", Promise21Restore::theSlotKeepsIt);
    s.test(21, RESTORES, "an empty disc too", Promise21Restore::anEmptyDisc);
    s.test(21, RESTORES, "the pad and the other slot stay as they are", Promise21Restore::thePadStays);
    s.test(21, RESTORES, "the next spare is the one that was next", Promise21Restore::nextSpare);
    s.test(21, "This is a change.", "it is recorded, and undone", Promise21Restore::oneChange);
    s.test(21, "This is a change.", "also if nothing is different", Promise21Restore::nothingDifferent);
    s.test(21, "This is a change.", "in a full history the oldest is dropped", Promise21Restore::fullHistory);
    s.test(21, "`slot`: 0 or 1", "0 and 1 are slots", Promise21Restore::bothSlots);
    s.test(21, "Returns how many addresses hold something then", "0, 1 and 192, whatever was there", Promise21Restore::howMany);
    for (int slot : new int[] {-1, 2, LEAST, MOST}) {
      s.test(21, "BAD_VALUE if there is no such slot", slot + " is none",
          due -> due.refused(due.busy(), BAD_VALUE, x -> x.restore(slot)));
    }
    s.test(21, "NOT_POSSIBLE if nothing was saved in it", "neither slot", due -> {
      due.refused(due.fresh(), NOT_POSSIBLE, x -> x.restore(0));
      due.refused(due.fresh(), NOT_POSSIBLE, x -> x.restore(1));
    });
    s.test(21, "NOT_POSSIBLE if nothing was saved in it", "the other one alone", Promise21Restore::theOtherAlone);
    s.test(21, "it names its errors in the order in which they are checked, and the first one that applies is returned",
        "no such slot, in which nothing was saved: BAD_VALUE", due -> {
          due.refused(due.fresh(), BAD_VALUE, x -> x.restore(2));
          due.refused(due.fresh(), BAD_VALUE, x -> x.restore(-1));
        });
    s.end();
  }

  private static void everything(Due due) {
    Run x = due.fresh();
    int[] values = {6, 2, 9, 2, 3};
    for (int setting = 0; setting < 5; setting++) x.set(setting, values[setting]);
    x.write(20, 1);
    x.write(32, 2);
    x.write(20, 3);
    x.write(20, 4);
    x.read(20);
    x.save(0);
    String saved = x.disc();
    for (int setting = 0; setting < 5; setting++) x.set(setting, 5);
    for (int i = 0; i < 30; i++) x.write(i % 3 * 12 + 8, i);
    x.read(8);
    x.idle(50);
    due.is("it is different now", x.disc().equals(saved) ? 1 : 0, 0);
    due.is(x.restore(0), 2);
    due.same("behind restore(0)", x.disc(), saved);
  }

  private static void savedLast(Due due) {
    Run x = due.fresh();
    for (int number = 1; number <= 3; number++) {
      x.write(7, number);
      x.save(1);
    }
    x.write(7, 9);
    x.restore(1);
    due.is(x.sector(7, HOLDS), 3);
    due.is(x.sector(7, TIMES), 3);
  }

  private static void theSlotKeepsIt(Due due) {
    Run x = due.fresh();
    x.write(20, 1);
    x.save(1);
    String saved = x.disc();
    for (int round = 0; round < 9; round++) {
      x.write(20, 2);
      x.write(32, round);
      x.set(HEAT, round);
      if (round % 3 == 1) x.undo();
      due.is(x.restore(1), 1);
      due.same("behind restore(1)", x.disc(), saved);
    }
  }

  private static void anEmptyDisc(Due due) {
    Run x = due.fresh();
    String empty = x.disc();
    x.save(0);
    x.write(20, 1);
    x.set(STEP, 9);
    due.is(x.restore(0), 0);
    due.same("behind restore(0)", x.disc(), empty);
  }

  private static void thePadStays(Due due) {
    Run x = due.fresh();
    x.write(1, 1);
    x.save(1);
    x.write(2, 2);
    x.type("r1;r2");
    x.save(0);
    x.wipe();
    x.type("r2");
    due.is(x.restore(0), 2);
    due.is(x.count(PAD), 2);
    due.is(x.run(true), 1);
    due.is(x.restore(1), 1);
    due.is(x.restore(0), 2);
  }

  private static void nextSpare(Due due) {
    Run x = due.fresh();
    x.set(WEAR, 1);
    x.write(5, 1);
    x.write(5, 2);
    x.save(0);
    for (int i = 0; i < 5; i++) x.write(5, 3);
    due.is(x.count(SPARES), 6);
    x.restore(0);
    due.is(x.count(SPARES), 11);
    due.is(x.sector(5, PLACE), 0);
    x.write(5, 4);
    due.is(x.sector(5, PLACE), 1);
    due.is(x.sector(5, TIMES), 1);
  }

  private static void oneChange(Due due) {
    Run x = due.fresh();
    x.write(1, 1);
    x.save(0);
    x.write(2, 2);
    due.isOneChange(x, r -> r.restore(0));
    due.is(x.count(FILLED), 2);
  }

  private static void nothingDifferent(Due due) {
    Run x = due.fresh();
    x.save(1);
    due.isOneChange(x, r -> r.restore(1));
    x.restore(1);
    due.is(x.count(UNDOS), 1);
  }

  private static void fullHistory(Due due) {
    Run x = due.fresh();
    x.save(0);
    for (int i = 1; i <= 6; i++) x.write(i, i);
    due.is(x.restore(0), 0);
    due.is(x.count(UNDOS), 6);
    due.is(x.undo(), 5);
    due.is(x.count(FILLED), 6);
    for (int left = 4; left >= 0; left--) due.is(x.undo(), left);
    due.is(x.count(FILLED), 1);
    due.is(x.restore(0), 0);
  }

  private static void bothSlots(Due due) {
    Run x = due.fresh();
    x.write(1, 1);
    x.save(0);
    x.write(2, 2);
    x.save(1);
    due.is(x.restore(0), 1);
    due.is(x.restore(1), 2);
  }

  private static void howMany(Due due) {
    Run x = due.fresh();
    x.save(0);
    for (int address = 0; address < 192; address++) x.write(address, 1);
    x.save(1);
    due.is(x.restore(0), 0);
    due.is(x.restore(1), 192);
    x.restore(0);
    x.write(3, 3);
    x.save(0);
    x.restore(1);
    due.is(x.restore(0), 1);
  }

  private static void theOtherAlone(Due due) {
    Run x = due.fresh();
    x.write(1, 1);
    x.save(1);
    due.refused(x, NOT_POSSIBLE, r -> r.restore(0));
    Run y = due.fresh();
    y.save(0);
    due.refused(y, NOT_POSSIBLE, r -> r.restore(1));
  }
}
