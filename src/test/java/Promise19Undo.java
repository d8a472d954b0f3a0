import java.util.function.Consumer;

/** Promise 19: undo. */
public final class Promise19Undo implements Codes {
  private static final String AS_BEFORE =
      "Undoes the latest change: everything except the pad, the slots and the history is as it was before it.";
  private static final String SIX = "A history of at most 6 states is kept";
  private static final String RECORDS =
      "each method that is a change, and returns no error, records the state before it (also if nothing is different then)";
  private static final String DROPPED = "when one more is recorded, the oldest one is dropped";

  public static void main(String[] args) {
    Sentences s = new Sentences();
    eachChange(s);
    s.test(19, AS_BEFORE, "the pad stays as it is", Promise19Undo::thePadStays);
    s.test(19, AS_BEFORE, "the slots stay as they are", Promise19Undo::theSlotsStay);
    s.test(19, AS_BEFORE, "the spares that are left, and the next one", Promise19Undo::sparesComeBack);
    s.test(19, AS_BEFORE, "undo is no change itself: the next one goes further back", Promise19Undo::furtherBack);
    s.test(19, SIX, "6 changes can all be undone", due -> changes(due, 6));
    s.test(19, SIX, "of 7 changes the latest 6", due -> changes(due, 7));
    s.test(19, DROPPED, "of 20 changes the latest 6", due -> changes(due, 20));
    s.test(19, DROPPED, "5 changes, and nothing is dropped", due -> changes(due, 5));
    s.test(19, DROPPED, "also when some were undone on the way", Promise19Undo::overAndOver);
    s.test(19, RECORDS, "a call with an error records nothing", Promise19Undo::errorsAreNotRecorded);
    s.test(19, RECORDS, "a call that is no change records nothing", Promise19Undo::noChanges);
    s.test(19, "Returns how many changes can be undone then", "5 to 0", Promise19Undo::howMany);
    s.test(19, "NOT_POSSIBLE if there is none", "on a new object", due -> due.refused(due.fresh(), NOT_POSSIBLE, Run::undo));
    s.test(19, "NOT_POSSIBLE if there is none", "when all are undone: the 7th time", Promise19Undo::allUndone);
    s.test(19, "NOT_POSSIBLE if there is none", "behind errors and saves alone", Promise19Undo::nothingRecorded);
    s.test(19, "A call that returns an error changes nothing.", "every call that can fail, one behind the other", Promise19Undo::errors);
    s.end();
  }

  /** Something of everything, with an empty history. */
  private static Run start(Due due) {
    Run x = due.fresh();
    x.set(WEAR, 2);
    x.write(20, 1);
    x.write(32, 1);
    x.write(20, 2);
    x.idle(7);
    x.save(1);
    while (x.count(UNDOS) > 0) x.undo();
    x.restore(1);
    return x;
  }

  private static void eachChange(Sentences s) {
    differs(s, "set", x -> x.set(LOST, 50));
    differs(s, "write", x -> x.write(32, 2));
    differs(s, "write to a spare", x -> x.write(20, 2));
    differs(s, "read", x -> x.read(32));
    differs(s, "refresh", x -> x.refresh(20));
    differs(s, "seek", x -> x.seek(5));
    differs(s, "idle", x -> x.idle(1));
    differs(s, "run", x -> x.run(true));
    differs(s, "run as they stand", x -> x.run(false));
    differs(s, "restore", x -> x.restore(0));
    same(s, "set to the value that it has", x -> x.set(LOST, 30));
    same(s, "seek to the track where the head is", x -> x.seek(x.count(HEAD)));
    same(s, "restore of what is there", x -> x.restore(1));
    same(s, "run of requests that are all passed over", x -> {
      x.wipe();
      x.type("r0;r191");
      x.run(false);
    });
  }

  private static void differs(Sentences s, String name, Consumer<Run> change) {
    s.test(19, AS_BEFORE, name, due -> {
      Run x = prepared(due);
      String before = x.disc();
      due.isOneChange(x, change);
      change.accept(x.count(PAD) == 0 ? typed(x) : x);
      due.is("as before behind " + name, x.disc().equals(before) ? 1 : 0, 0);
    });
  }

  private static void same(Sentences s, String name, Consumer<Run> change) {
    s.test(19, RECORDS, name, due -> {
      Run x = prepared(due);
      String before = x.disc();
      due.isOneChange(x, change);
      change.accept(x);
      due.same("the disc behind " + name, x.disc(), before);
    });
  }

  private static Run prepared(Due due) {
    Run x = due.fresh();
    x.save(0);
    x.set(WEAR, 2);
    x.write(20, 1);
    x.write(32, 1);
    x.write(20, 2);
    x.save(1);
    return typed(x);
  }

  private static Run typed(Run x) {
    x.type("w20=3;w8=1;r32");
    return x;
  }

  private static void thePadStays(Due due) {
    Run x = due.fresh();
    x.write(1, 1);
    x.type("w1=2;r1");
    due.is(x.undo(), 0);
    due.is(x.count(PAD), 7);
    due.is(x.fault(), NONE);
    due.is(x.run(false), 2);
    x.type("r5;");
    due.is(x.undo(), 0);
    due.is(x.count(PAD), 3);
    due.is(x.fault(), 3);
  }

  private static void theSlotsStay(Due due) {
    Run x = due.fresh();
    x.write(1, 1);
    x.save(0);
    x.write(2, 2);
    x.save(1);
    x.undo();
    x.undo();
    due.is(x.count(FILLED), 0);
    due.is(x.restore(1), 2);
    due.is(x.restore(0), 1);
    due.is(x.sector(1, HOLDS), 1);
    x.save(1);
    x.undo();
    due.is(x.count(FILLED), 2);
    due.is(x.restore(1), 1);
  }

  private static void sparesComeBack(Due due) {
    Run x = due.fresh();
    x.set(WEAR, 1);
    x.write(30, 1);
    x.write(40, 1);
    x.write(30, 2);
    due.is(x.count(SPARES), 11);
    x.undo();
    due.is(x.count(SPARES), 12);
    due.is(x.sector(30, HAS_SPARE), 0);
    due.is(x.sector(30, HOLDS), 1);
    due.is(x.track(16, WRITINGS_ON), 0);
    x.write(40, 2);
    due.is(x.sector(40, PLACE), 0);
    due.is(x.sector(40, TIMES), 1);
  }

  private static void furtherBack(Due due) {
    Run x = due.fresh();
    x.write(1, 1);
    x.write(1, 2);
    x.write(1, 3);
    x.undo();
    due.is(x.sector(1, HOLDS), 2);
    x.undo();
    due.is(x.sector(1, HOLDS), 1);
    x.undo();
    due.is(x.sector(1, HOLDS), NONE);
  }

  private static void changes(Due due, int changes) {
    Run x = due.fresh();
    for (int i = 1; i <= changes; i++) {
      x.write(i, i);
      due.is(x.count(UNDOS), Math.min(6, i));
    }
    int kept = Math.min(6, changes);
    for (int undone = 1; undone <= kept; undone++) {
      due.is(x.undo(), kept - undone);
      due.is(x.count(FILLED), changes - undone);
      due.is(x.sector(changes - undone + 1, HOLDS), NONE);
      due.is(x.sector(changes - undone, HOLDS), changes - undone == 0 ? NONE : changes - undone);
    }
    due.refused(x, NOT_POSSIBLE, Run::undo);
    due.is(x.count(FILLED), changes - kept);
  }

  private static void overAndOver(Due due) {
    Run x = due.fresh();
    for (int round = 0; round < 20; round++) {
      for (int i = 0; i < 4; i++) x.write(round, 10 * round + i);
      x.undo();
      x.undo();
      due.is(x.sector(round, HOLDS), 10 * round + 1);
      due.is(x.sector(round, TIMES), 2);
      due.is(x.count(WRITINGS), 2 * round + 2);
      due.is(x.count(UNDOS), round == 0 ? 2 : 4);
    }
  }

  private static void errorsAreNotRecorded(Due due) {
    Run x = due.fresh();
    x.write(1, 1);
    int[] answers = {x.set(0, 21), x.write(192, 1), x.write(1, 256), x.read(2), x.refresh(2), x.seek(17), x.idle(0),
        x.run(true), x.restore(0), x.restore(2), x.save(2), x.put(0)};
    for (int answer : answers) due.is("below 0", answer < 0 ? 1 : 0, 1);
    due.is(x.count(UNDOS), 1);
    due.is(x.undo(), 0);
    due.is(x.count(FILLED), 0);
  }

  private static void noChanges(Due due) {
    Run x = due.fresh();
    x.write(1, 1);
    x.save(0);
    x.type("r1");
    x.ifRun(true);
    x.fault();
    x.untilLost(13, 1);
    x.ticksFor(5, true);
    x.worst();
    x.sector(1, 1);
    x.track(1, 1);
    x.count(1);
    x.wipe();
    due.is(x.count(UNDOS), 1);
    due.is(x.undo(), 0);
    due.is(x.count(FILLED), 0);
  }

  private static void howMany(Due due) {
    Run x = start(due);
    due.is(x.count(UNDOS), 1);
    for (int i = 0; i < 8; i++) x.idle(1);
    for (int left = 5; left >= 0; left--) {
      due.is(x.undo(), left);
      due.is(x.count(UNDOS), left);
    }
  }

  private static void allUndone(Due due) {
    Run x = due.busy();
    for (int i = 0; i < 6; i++) due.is(x.undo(), 5 - i);
    due.refused(x, NOT_POSSIBLE, Run::undo);
    due.is(x.seek(3) >= 0 ? x.undo() : -9, 0);
    due.is(x.undo(), NOT_POSSIBLE);
  }

  private static void nothingRecorded(Due due) {
    Run x = due.fresh();
    x.save(0);
    x.read(0);
    x.type("r1");
    due.refused(x, NOT_POSSIBLE, Run::undo);
  }

  private static void errors(Due due) {
    Run x = due.busy();
    x.put(';');
    String before = x.look();
    due.is(x.set(5, 5), BAD_VALUE);
    due.is(x.set(0, 21), BAD_VALUE);
    due.is(x.write(192, 1), NO_SUCH);
    due.is(x.write(0, 256), BAD_VALUE);
    due.is(x.read(192), NO_SUCH);
    due.is(x.read(0), NOT_POSSIBLE);
    due.is(x.refresh(-1), NO_SUCH);
    due.is(x.refresh(12), NOT_POSSIBLE);
    due.is(x.seek(17), NO_SUCH);
    due.is(x.idle(0), BAD_VALUE);
    due.is(x.run(true), BAD_TEXT);
    due.is(x.sector(192, 0), NO_SUCH);
    due.is(x.track(17, 0), NO_SUCH);
    due.is(x.count(18), BAD_VALUE);
    due.is(x.ticksFor(192, true), NO_SUCH);
    due.is(x.ifRun(false), BAD_TEXT);
    due.is(x.untilLost(0, 0), BAD_VALUE);
    due.is(x.put(32), BAD_VALUE);
    due.is(x.save(2), BAD_VALUE);
    due.is(x.restore(2), BAD_VALUE);
    due.same("behind all of them", x.look(), before);
  }
}
