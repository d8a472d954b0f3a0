/** Promise 20: save. */
public final class Promise20Save implements Codes {
  private static final String SAVES =
      "Saves everything except the pad, the history and the slots in a slot, and overwrites what was saved there.";

  public static void main(String[] args) {
    Sentences s = new Sentences();
    s.test(20, SAVES, "settings, sectors, spares, head, ticks and reads", Promise20Save::everything);
    s.test(20, SAVES, "not the pad", Promise20Save::notThePad);
    s.test(20, SAVES, "not the history", Promise20Save::notTheHistory);
    s.test(20, SAVES, "not the slots: the other one stays as it is", Promise20Save::notTheOtherSlot);
    s.test(20, SAVES, "what was saved there is overwritten", Promise20Save::overwrites);
    s.test(20, SAVES, "later changes do not come to what is saved", Promise20Save::laterChanges);
    s.test(20, SAVES, "it is no change, and nothing is different but the slot", Promise20Save::noChange);
    s.test(20, "`slot`: 0 or 1", "0 and 1 are slots", Promise20Save::bothSlots);
    s.test(20, "Returns how many addresses hold something", "0, 1, and all 192", Promise20Save::howMany);
    s.test(20, "Returns how many addresses hold something", "also those on spares and those that are lost", Promise20Save::lostAndSpares);
    for (int slot : new int[] {-1, 2, LEAST, MOST}) {
      s.test(20, "BAD_VALUE if there is no such slot", slot + " is none",
          due -> due.refused(due.busy(), BAD_VALUE, x -> x.save(slot)));
    }
    s.end();
  }

  private static void everything(Due due) {
    Run x = due.busy();
    String saved = x.disc();
    due.is(x.save(0), 3);
    for (int setting = 0; setting < 5; setting++) x.set(setting, 15);
    for (int i = 0; i < 30; i++) x.write(i % 3 * 12 + 8, i);
    x.write(100, 1);
    due.is(x.read(100), 1);
    x.idle(50);
    x.restore(0);
    due.same("behind restore(0)", x.disc(), saved);
  }

  private static void notThePad(Due due) {
    Run x = due.fresh();
    x.type("r1;r2");
    x.save(0);
    due.is(x.count(PAD), 5);
    x.wipe();
    x.type("r3");
    x.restore(0);
    due.is(x.count(PAD), 2);
    due.is(x.fault(), NONE);
  }

  private static void notTheHistory(Due due) {
    Run x = due.fresh();
    x.write(1, 1);
    x.write(2, 2);
    x.save(0);
    x.undo();
    x.undo();
    due.is(x.restore(0), 2);
    due.is(x.count(UNDOS), 1);
    due.is(x.undo(), 0);
    due.is(x.count(FILLED), 0);
  }

  private static void notTheOtherSlot(Due due) {
    Run x = due.fresh();
    x.write(1, 1);
    due.is(x.save(0), 1);
    due.is(x.restore(1), NOT_POSSIBLE);
    x.write(2, 2);
    due.is(x.save(1), 2);
    due.is(x.restore(0), 1);
    due.is(x.restore(1), 2);
    due.is(x.save(0), 2);
    x.write(3, 3);
    due.is(x.restore(1), 2);
    due.is(x.restore(0), 2);
  }

  private static void overwrites(Due due) {
    Run x = due.fresh();
    for (int slot : new int[] {0, 1}) {
      x.write(10 + slot, 1);
      x.save(slot);
      x.write(20 + slot, 2);
      int filled = x.count(FILLED);
      due.is(x.save(slot), filled);
      x.write(30 + slot, 3);
      due.is(x.restore(slot), filled);
      due.is(x.sector(20 + slot, HOLDS), 2);
      due.is(x.sector(30 + slot, HOLDS), NONE);
    }
  }

  private static void laterChanges(Due due) {
    Run x = due.fresh();
    x.write(20, 1);
    x.save(1);
    String saved = x.disc();
    x.write(20, 2);
    x.write(32, 2);
    x.set(HEAT, 0);
    x.undo();
    x.undo();
    x.write(8, 1);
    x.restore(1);
    due.same("behind restore(1)", x.disc(), saved);
  }

  private static void noChange(Due due) {
    Run x = due.busy();
    String before = x.disc();
    x.save(1);
    due.same("the disc", x.disc(), before);
    due.is(x.count(UNDOS), 6);
    due.is(x.count(PAD), 9);
    Run y = due.fresh();
    y.save(0);
    due.is(y.count(UNDOS), 0);
    due.is(y.undo(), NOT_POSSIBLE);
  }

  private static void bothSlots(Due due) {
    Run x = due.fresh();
    due.is(x.save(0), 0);
    due.is(x.save(1), 0);
    due.is(x.restore(0), 0);
    due.is(x.restore(1), 0);
  }

  private static void howMany(Due due) {
    Run x = due.fresh();
    due.is(x.save(0), 0);
    x.write(191, 0);
    x.write(191, 1);
    due.is(x.save(0), 1);
    for (int address = 0; address < 191; address++) x.write(address, 1);
    due.is(x.save(1), 192);
    due.is(x.save(0), 192);
  }

  private static void lostAndSpares(Due due) {
    Run x = due.busy();
    due.is(x.sector(12, READABLE), 0);
    due.is(x.sector(24, HAS_SPARE), 1);
    due.is(x.save(1), 3);
  }
}
