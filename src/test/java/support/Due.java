import java.util.function.Consumer;
import java.util.function.ToIntFunction;

/** Compares answers with those that are due, in one test. */
final class Due implements Codes {
  private int asked = 0;
  private int wrong = 0;
  private String latest = "nothing";

  boolean isRight() {
    return asked > 0 && wrong == 0;
  }

  void notes(String call) {
    latest = call;
  }

  void threw(Throwable thrown) {
    asked++;
    wrong++;
    System.out.println("  " + latest + " threw " + thrown);
  }

  /** The latest call's answer. */
  void is(long got, long want) {
    is(latest, got, want);
  }

  void is(String what, long got, long want) {
    asked++;
    if (got == want) return;
    wrong++;
    System.out.println("  " + what + " answered " + got + ", due is " + want);
  }

  void same(String what, String got, String want) {
    asked++;
    if (got.equals(want)) return;
    wrong++;
    int apart = 0;
    while (apart < Math.min(got.length(), want.length()) && got.charAt(apart) == want.charAt(apart)) apart++;
    System.out.println("  " + what + " stands [" + part(got, apart) + "], due is [" + part(want, apart) + "]");
  }

  private static String part(String text, int at) {
    return text.substring(Math.max(0, Math.min(text.length(), at) - 60), Math.min(text.length(), at + 40));
  }

  /** A call with an error: its answer, and that everything is behind it as it was. */
  void refused(Run x, int error, ToIntFunction<Run> call) {
    String before = x.look();
    int answer = call.applyAsInt(x);
    String name = latest;
    is(name, answer, error);
    same("behind " + name, x.look(), before);
  }

  /** Calls that change nothing. */
  void unchanged(Run x, Consumer<Run> calls) {
    String before = x.look();
    calls.accept(x);
    same("behind " + latest, x.look(), before);
  }

  /** What is recorded as one change, and undone by one undo(); the object has a place free in its history. */
  void isOneChange(Run x, Consumer<Run> call) {
    String before = x.disc();
    int undos = x.count(UNDOS);
    call.accept(x);
    String name = latest;
    is("count(17) behind " + name, x.count(UNDOS), undos + 1);
    is("undo() of " + name, x.undo(), undos);
    same("behind undo() of " + name, x.disc(), before);
  }

  Run fresh() {
    return new Run(this);
  }

  /** An object that has something of everything: blur, what is lost, a spare, a full history, both slots, a text. */
  Run busy() {
    Run x = fresh();
    x.set(HEAT, 6);
    x.set(FAR, 2);
    x.set(WEAR, 3);
    x.write(12, 1);
    x.save(0);
    x.write(24, 2);
    x.write(36, 3);
    for (int number = 4; number <= 6; number++) x.write(24, number);
    // 24 is on the spare 0; 12 has 8 + 6 + 6 blur, 36 has 6 + 6.
    x.set(LOST, 13);
    x.read(36);
    x.save(1);
    x.seek(7);
    x.idle(5);
    x.type("w12=9;r36");
    return x;
  }
}
