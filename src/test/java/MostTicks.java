import java.util.function.ToIntFunction;

/**
 * The sentence TOO_MANY of the promises 3 to 8: no call may end above the tick 9999999. A call lets 9999 ticks pass at
 * most, so that 512 calls cannot come so far: these tests alone use an object for longer than it is promised.
 */
public final class MostTicks implements Codes {
  private static final String TOO_MANY_TICKS = "TOO_MANY if the ticks would be above 9999999";
  private static final int LAST = 9999999;

  public static void main(String[] args) {
    Sentences s = new Sentences();
    // At the tick 9999999 the sector 3 is under the head.
    s.test(3, TOO_MANY_TICKS, "it ends at 9999999", due -> taken(due, 1, x -> x.write(2, 9), 1));
    s.test(3, TOO_MANY_TICKS, "it would end at 10000000", due -> refused(due, 1, x -> x.write(3, 9), TOO_MANY));
    s.test(3, TOO_MANY_TICKS, "it would begin at 9999999", due -> refused(due, 0, x -> x.write(3, 9), TOO_MANY));
    s.test(3, TOO_MANY_TICKS, "no spare is given then", MostTicks::noSpareIsGiven);
    s.test(3, TOO_MANY_TICKS, "NO_SUCH and BAD_VALUE come first", due -> {
      refused(due, 0, x -> x.write(192, 256), NO_SUCH);
      refused(due, 0, x -> x.write(0, 256), BAD_VALUE);
    });
    s.test(4, TOO_MANY_TICKS, "it ends at 9999999", due -> taken(due, 1, x -> x.read(2), 52));
    s.test(4, TOO_MANY_TICKS, "it would end at 10000000", due -> refused(due, 1, x -> x.read(3), TOO_MANY));
    s.test(4, TOO_MANY_TICKS, "NO_SUCH and NOT_POSSIBLE come first", due -> {
      refused(due, 0, x -> x.read(192), NO_SUCH);
      refused(due, 0, x -> x.read(100), NOT_POSSIBLE);
    });
    s.test(5, TOO_MANY_TICKS, "both end at 9999999", due -> taken(due, 13, x -> x.refresh(2), 0));
    s.test(5, TOO_MANY_TICKS, "the writing would end at 10000000", due -> refused(due, 12, x -> x.refresh(3), TOO_MANY));
    s.test(5, TOO_MANY_TICKS, "the read would end at 10000000", due -> refused(due, 0, x -> x.refresh(3), TOO_MANY));
    s.test(5, TOO_MANY_TICKS, "NO_SUCH and NOT_POSSIBLE come first", due -> {
      refused(due, 0, x -> x.refresh(192), NO_SUCH);
      refused(due, 0, x -> x.refresh(100), NOT_POSSIBLE);
    });
    s.test(6, TOO_MANY_TICKS, "it ends at 9999999", due -> taken(due, 4, x -> x.seek(2), 4));
    s.test(6, TOO_MANY_TICKS, "it would end at 10000000", due -> {
      refused(due, 3, x -> x.seek(2), TOO_MANY);
      refused(due, 1, x -> x.seek(1), TOO_MANY);
    });
    s.test(6, TOO_MANY_TICKS, "0 ticks are taken at 9999999", due -> taken(due, 0, x -> x.seek(0), 0));
    s.test(6, TOO_MANY_TICKS, "NO_SUCH comes first", due -> refused(due, 0, x -> x.seek(17), NO_SUCH));
    s.test(7, TOO_MANY_TICKS, "it ends at 9999999", due -> {
      taken(due, 9, x -> x.idle(9), 3);
      taken(due, 9999, x -> x.idle(9999), 3);
    });
    s.test(7, TOO_MANY_TICKS, "it would end at 10000000", due -> {
      refused(due, 9, x -> x.idle(10), TOO_MANY);
      refused(due, 9998, x -> x.idle(9999), TOO_MANY);
      refused(due, 0, x -> x.idle(1), TOO_MANY);
    });
    s.test(7, TOO_MANY_TICKS, "BAD_VALUE comes first", due -> refused(due, 0, x -> x.idle(10000), BAD_VALUE));
    s.test(8, "one for which its method would return an error is passed over", "TOO_MANY for the ticks", MostTicks::passedOver);
    s.test(13, "Tells how many ticks the requests of the pad would take, as run() does them.",
        "those for which there is no time take none", MostTicks::ifRunAtTheEnd);
    s.test(12, "Tells how many ticks a request for an address would take now", "also if there is no time for them",
        due -> due.is("ticksFor(3, false)", ahead(0).ticksFor(3, false), 1));
    s.end();
  }

  /** The head on the track 0, some ticks ahead of 9999999; the sectors 2 and 3 hold something. */
  private static GrooveTurns ahead(int ticks) {
    GrooveTurns x = new GrooveTurns();
    x.write(2, 52);
    x.write(3, 53);
    while (x.count(TICKS) < LAST - ticks) x.idle(Math.min(9999, LAST - ticks - x.count(TICKS)));
    return x;
  }

  private static void taken(Due due, int ahead, ToIntFunction<GrooveTurns> call, int want) {
    GrooveTurns x = ahead(ahead);
    due.is("the call " + ahead + " ticks ahead", call.applyAsInt(x), want);
    due.is("count(5)", x.count(TICKS), LAST);
  }

  private static void refused(Due due, int ahead, ToIntFunction<GrooveTurns> call, int error) {
    GrooveTurns x = ahead(ahead);
    String before = seen(x);
    due.is("the call " + ahead + " ticks ahead", call.applyAsInt(x), error);
    due.same("behind it", seen(x), before);
    due.is("undo()", x.undo(), 5);
    due.is("count(5)", x.count(TICKS) < LAST - ahead ? 1 : 0, 1);
  }

  private static String seen(GrooveTurns x) {
    StringBuilder seen = new StringBuilder();
    for (int what = 0; what < 18; what++) seen.append(x.count(what)).append(' ');
    for (int track = 0; track < 17; track++) {
      for (int what = 0; what < 4; what++) seen.append(x.track(track, what)).append(' ');
    }
    for (int address = 0; address < 12; address++) seen.append(x.sector(address, HOLDS)).append(' ');
    return seen.toString();
  }

  private static void noSpareIsGiven(Due due) {
    GrooveTurns x = ahead(5);
    x.set(WEAR, 1);
    due.is("write(2, 9)", x.write(2, 9), TOO_MANY);
    due.is("count(8)", x.count(SPARES), 12);
    due.is("sector(2, 5)", x.sector(2, HAS_SPARE), 0);
    due.is("sector(2, 2)", x.sector(2, HOLDS), 52);
  }

  private static GrooveTurns typedAtTheEnd() {
    GrooveTurns x = ahead(1);
    // w3 would end at 10000000, w2 ends at 9999999, and r2 would begin there.
    x.put(Run.packed("w3=1;w2="));
    x.put(Run.packed("1;r2"));
    return x;
  }

  private static void passedOver(Due due) {
    GrooveTurns x = typedAtTheEnd();
    due.is("run(false)", x.run(false), 1);
    due.is("count(5)", x.count(TICKS), LAST);
    due.is("sector(3, 2)", x.sector(3, HOLDS), 53);
    due.is("sector(2, 2)", x.sector(2, HOLDS), 1);
    due.is("count(12)", x.count(READS), 0);
    due.is("count(16)", x.count(PAD), 0);
  }

  private static void ifRunAtTheEnd(Due due) {
    GrooveTurns x = typedAtTheEnd();
    due.is("ifRun(false)", x.ifRun(false), 1);
    due.is("ifRun(true)", x.ifRun(true), 1);
  }
}
