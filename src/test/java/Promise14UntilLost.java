/** Promise 14: untilLost. */
public final class Promise14UntilLost implements Codes {
  private static final String TELLS =
      "Tells how often an address can be written, one time behind the other, until another one cannot be read any more.";
  private static final String MANY = "Returns how many writings, 1 to 500";
  private static final String NOT = "NOT_POSSIBLE if the other one holds nothing, or cannot be read now";
  private static final String STILL = "NONE if it can be read still behind 500";

  public static void main(String[] args) {
    Sentences s = new Sentences();
    s.test(14, TELLS, "when the blur comes to LOST, not to LOST - 1", Promise14UntilLost::toLost);
    s.test(14, TELLS, "by HEAT on both sides, by FAR on both", Promise14UntilLost::eachSide);
    s.test(14, TELLS, "as many as it takes indeed", Promise14UntilLost::asItTakes);
    s.test(14, TELLS, "with writings that it bears just to the end", Promise14UntilLost::bornToTheEnd);
    s.test(14, TELLS, "without a spare left it is written on and on", Promise14UntilLost::withoutSpares);
    s.test(14, TELLS, "the address may hold nothing, or be lost", Promise14UntilLost::ofNothing);
    s.test(14, TELLS, "nothing changes", due -> due.unchanged(due.busy(), x -> {
      x.untilLost(48, 36);
      x.untilLost(24, 36);
      x.untilLost(0, 24);
    }));
    s.test(14, MANY, "1: one more, and it is lost", Promise14UntilLost::one);
    s.test(14, MANY, "99, the most that HEAT 1 and LOST 99 can take", Promise14UntilLost::most);
    s.test(14, STILL, "what is not beside it", Promise14UntilLost::notBeside);
    s.test(14, STILL, "without heat", Promise14UntilLost::withoutHeat);
    s.test(14, STILL, "it goes to a spare one writing too early", Promise14UntilLost::spareTooEarly);
    s.test(14, STILL, "one of both is on a spare", Promise14UntilLost::onASpare);
    s.test(14, "NO_SUCH if there is no such address", "0 and 191 are addresses", Promise14UntilLost::firstAndLast);
    for (int bad : new int[] {-1, 192, 203, LEAST, MOST}) {
      s.test(14, "NO_SUCH if there is no such address", bad + " is none, as one or the other", due -> {
        due.refused(due.busy(), NO_SUCH, x -> x.untilLost(bad, 36));
        due.refused(due.busy(), NO_SUCH, x -> x.untilLost(36, bad));
      });
    }
    s.test(14, "BAD_VALUE if both are the same", "one that can be read", due -> {
      due.refused(due.busy(), BAD_VALUE, x -> x.untilLost(36, 36));
      due.refused(due.busy(), BAD_VALUE, x -> x.untilLost(24, 24));
    });
    s.test(14, NOT, "it holds nothing", due -> {
      due.refused(due.busy(), NOT_POSSIBLE, x -> x.untilLost(36, 0));
      due.refused(due.fresh(), NOT_POSSIBLE, x -> x.untilLost(0, 12));
    });
    s.test(14, NOT, "it cannot be read", due -> due.refused(due.busy(), NOT_POSSIBLE, x -> x.untilLost(24, 12)));
    s.test(14, NOT, "at LOST it is refused, below it is taken", Promise14UntilLost::edgeOfLost);
    s.test(14, "it names its errors in the order in which they are checked, and the first one that applies is returned",
        "two of NO_SUCH, BAD_VALUE and NOT_POSSIBLE", Promise14UntilLost::twoErrors);
    s.test(14, "NONE (-6) is not an error; it is returned only if no error applies.",
        "far apart, but it holds nothing", Promise14UntilLost::noneOrError);
    s.end();
  }

  private static void toLost(Due due) {
    Run x = due.fresh();
    x.write(48, 1);
    int[] losts = {5, 8, 9, 12, 13, 30};
    int[] wants = {2, 2, 3, 3, 4, 8};
    for (int i = 0; i < losts.length; i++) {
      x.set(LOST, losts[i]);
      due.is(x.untilLost(60, 48), wants[i]);
    }
  }

  private static void eachSide(Due due) {
    Run x = due.fresh();
    x.write(48, 1);
    x.set(FAR, 3);
    due.is(x.untilLost(36, 48), 8);
    due.is(x.untilLost(60, 48), 8);
    due.is(x.untilLost(24, 48), 10);
    due.is(x.untilLost(72, 48), 10);
  }

  private static void asItTakes(Due due) {
    for (int address : new int[] {24, 36, 60, 72}) {
      Run x = due.fresh();
      x.set(FAR, 7);
      x.write(48, 1);
      int told = x.untilLost(address, 48);
      for (int i = 1; i < told; i++) x.write(address, 9);
      due.is(x.sector(48, READABLE), 1);
      due.is(x.untilLost(address, 48), 1);
      x.write(address, 9);
      due.is(x.sector(48, READABLE), 0);
    }
  }

  private static void bornToTheEnd(Due due) {
    Run x = due.fresh();
    x.write(48, 1);
    x.set(WEAR, 8);
    due.is(x.untilLost(60, 48), 8);
    x.write(60, 1);
    due.is(x.untilLost(60, 48), 7);
    for (int i = 0; i < 6; i++) x.write(60, 1);
    due.is(x.sector(60, TIMES), 7);
    due.is(x.untilLost(60, 48), 1);
  }

  private static void withoutSpares(Due due) {
    Run x = due.fresh();
    x.set(WEAR, 1);
    for (int i = 0; i <= 11; i++) x.write(190, 1);
    x.write(48, 1);
    x.write(60, 1);
    due.is(x.sector(48, BLUR), 4);
    due.is(x.count(SPARES), 1);
    due.is(x.untilLost(60, 48), NONE);
    x.write(190, 1);
    due.is(x.count(SPARES), 0);
    due.is(x.untilLost(60, 48), 7);
    x.set(LOST, 99);
    x.set(HEAT, 1);
    due.is(x.untilLost(60, 48), 95);
  }

  private static void ofNothing(Due due) {
    Run x = due.fresh();
    x.write(12, 1);
    due.is(x.untilLost(0, 12), 8);
    x.write(0, 1);
    x.set(LOST, 5);
    x.set(HEAT, 2);
    for (int i = 0; i < 3; i++) x.write(12, 1);
    due.is(x.sector(0, READABLE), 0);
    due.is(x.untilLost(0, 12), 3);
  }

  private static void one(Due due) {
    Run x = due.fresh();
    x.write(0, 1);
    x.set(HEAT, 5);
    x.set(LOST, 5);
    due.is(x.untilLost(12, 0), 1);
    x.set(LOST, 6);
    due.is(x.untilLost(12, 0), 2);
  }

  private static void most(Due due) {
    Run x = due.fresh();
    x.set(HEAT, 1);
    x.set(LOST, 99);
    x.set(WEAR, 99);
    x.write(0, 1);
    due.is(x.untilLost(12, 0), 99);
    due.is(x.untilLost(24, 0), 99);
    x.set(WEAR, 98);
    due.is(x.untilLost(12, 0), NONE);
  }

  private static void notBeside(Due due) {
    Run x = due.fresh();
    x.set(HEAT, 20);
    x.set(FAR, 20);
    x.write(48, 1);
    for (int address : new int[] {12, 84, 49, 47, 59, 61, 35, 37, 0, 96, 191, 180}) {
      due.is(x.untilLost(address, 48), NONE);
    }
  }

  private static void withoutHeat(Due due) {
    Run x = due.fresh();
    x.write(48, 1);
    x.set(LOST, 5);
    x.set(HEAT, 0);
    due.is(x.untilLost(60, 48), NONE);
    due.is(x.untilLost(72, 48), 5);
    x.set(FAR, 0);
    due.is(x.untilLost(72, 48), NONE);
  }

  private static void spareTooEarly(Due due) {
    Run x = due.fresh();
    x.write(48, 1);
    x.set(WEAR, 7);
    due.is(x.untilLost(60, 48), NONE);
    due.is(x.untilLost(72, 48), NONE);
    x.set(WEAR, 8);
    due.is(x.untilLost(60, 48), 8);
    x.set(WEAR, 29);
    due.is(x.untilLost(72, 48), NONE);
    x.set(WEAR, 30);
    due.is(x.untilLost(72, 48), 30);
  }

  private static void onASpare(Due due) {
    Run x = due.fresh();
    x.write(48, 1);
    x.write(60, 1);
    x.set(WEAR, 1);
    x.write(60, 1);
    x.set(WEAR, 99);
    due.is(x.untilLost(60, 48), NONE);
    due.is(x.untilLost(36, 48), 7);
    due.is(x.untilLost(48, 60), NONE);
    due.is(x.untilLost(180, 60), NONE);
    due.is(x.untilLost(168, 60), NONE);
  }

  private static void firstAndLast(Due due) {
    Run x = due.fresh();
    x.write(0, 1);
    x.write(191, 1);
    due.is(x.untilLost(191, 0), NONE);
    due.is(x.untilLost(0, 191), NONE);
    due.is(x.untilLost(12, 0), 8);
    due.is(x.untilLost(179, 191), 8);
  }

  private static void edgeOfLost(Due due) {
    Run x = due.fresh();
    x.write(0, 1);
    x.write(12, 1);
    x.write(12, 1);
    x.set(LOST, 8);
    due.refused(x, NOT_POSSIBLE, r -> r.untilLost(12, 0));
    x.set(LOST, 9);
    due.is(x.untilLost(12, 0), 1);
  }

  private static void twoErrors(Due due) {
    for (int bad : new int[] {-1, 192}) {
      due.refused(due.busy(), NO_SUCH, x -> x.untilLost(bad, bad));
      due.refused(due.busy(), NO_SUCH, x -> x.untilLost(bad, 0));
      due.refused(due.busy(), NO_SUCH, x -> x.untilLost(0, bad));
    }
    due.refused(due.busy(), BAD_VALUE, x -> x.untilLost(0, 0));
    due.refused(due.busy(), BAD_VALUE, x -> x.untilLost(12, 12));
  }

  private static void noneOrError(Due due) {
    Run x = due.fresh();
    due.is(x.untilLost(0, 191), NOT_POSSIBLE);
    due.is(x.untilLost(0, 192), NO_SUCH);
    x.write(191, 1);
    due.is(x.untilLost(0, 191), NONE);
  }
}
