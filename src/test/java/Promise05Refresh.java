/** Promise 5: refresh. */
public final class Promise05Refresh {
  public static void main(String[] args) {
    Due due = new Due();
    ordinary(due);
    isAsReadAndWrite(due);
    givesASpare(due);
    ofTheNumber0(due);
    errors(due);
    due.end();
  }

  private static void ordinary(Due due) {
    GrooveTurns x = new GrooveTurns();
    x.write(13, 200);
    x.write(25, 3);
    int ticks = x.count(5);
    due.is("refresh(13)", x.refresh(13), 4);
    due.is("sector(13, 2)", x.sector(13, 2), 200);
    due.is("sector(13, 3)", x.sector(13, 3), 0);
    due.is("sector(13, 4)", x.sector(13, 4), 2);
    due.is("it heats", x.sector(25, 3), 4);
    due.is("count(5): the read, and a turn for the writing", x.count(5), ticks + 12 + 12);
    due.is("count(12)", x.count(12), 1);
    due.is("count(11)", x.count(11), 3);
    due.is("count(17): one change", x.count(17), 3);
    due.is("refresh(13)", x.refresh(13), 0);
    due.is("undo()", x.undo(), 3);
    due.is("undo()", x.undo(), 2);
    due.is("sector(13, 3)", x.sector(13, 3), 4);
    due.is("count(12)", x.count(12), 0);
  }

  private static void isAsReadAndWrite(Due due) {
    GrooveTurns one = new GrooveTurns();
    GrooveTurns other = new GrooveTurns();
    for (GrooveTurns x : new GrooveTurns[] {one, other}) {
      x.set(GrooveTurns.WEAR, 2);
      for (int a : new int[] {40, 52, 64, 52, 41, 53, 52}) x.write(a, a);
    }
    for (int a : new int[] {40, 52, 64, 41, 40, 52, 64}) {
      one.refresh(a);
      other.write(a, other.read(a));
      due.same("behind refresh(" + a + ")", Due.disc(one), Due.disc(other));
      for (int what = 0; what < 17; what++) due.is("count(" + what + ")", one.count(what), other.count(what));
    }
  }

  private static void givesASpare(Due due) {
    GrooveTurns x = new GrooveTurns();
    x.set(GrooveTurns.WEAR, 1);
    x.write(50, 8);
    x.write(62, 8);
    due.is("refresh(50)", x.refresh(50), 4);
    due.is("sector(50, 0)", x.sector(50, 0), 16);
    due.is("sector(50, 2)", x.sector(50, 2), 8);
    due.is("sector(62, 3)", x.sector(62, 3), 0);
    due.is("the old sector keeps its blur", x.track(4, 2), 4);
  }

  private static void ofTheNumber0(Due due) {
    GrooveTurns x = new GrooveTurns();
    x.write(0, 0);
    x.write(12, 0);
    due.is("refresh(0)", x.refresh(0), 4);
    due.is("sector(0, 2)", x.sector(0, 2), 0);
    due.is("sector(0, 3)", x.sector(0, 3), 0);
    due.is("count(17)", x.count(17), 3);
  }

  private static void errors(Due due) {
    GrooveTurns x = new GrooveTurns();
    x.set(GrooveTurns.LOST, 5);
    x.write(0, 1);
    x.write(12, 1);
    x.write(12, 1);
    for (int address : new int[] {-1, 192, Integer.MIN_VALUE, Integer.MAX_VALUE}) {
      due.error(x, "refresh(" + address + ")", () -> x.refresh(address), GrooveTurns.NO_SUCH);
    }
    due.error(x, "refresh of nothing", () -> x.refresh(1), GrooveTurns.NOT_POSSIBLE);
    due.error(x, "refresh of what is lost", () -> x.refresh(0), GrooveTurns.NOT_POSSIBLE);
  }
}
