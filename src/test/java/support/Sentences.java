import java.util.function.Consumer;

/** Tests that are named by a promise and a sentence of ../shared/DOC.md; each is told in a line of its own. */
final class Sentences {
  private int failed = 0;

  void test(int promise, String sentence, String what, Consumer<Due> test) {
    Due due = new Due();
    try {
      test.accept(due);
    } catch (RuntimeException | StackOverflowError thrown) {
      due.threw(thrown);
    }
    if (!due.isRight()) failed++;
    System.out.println((due.isRight() ? "ok    " : "WRONG ") + "promise " + promise + " :: " + sentence + " :: " + what);
  }

  void end() {
    if (failed != 0) System.exit(1);
  }
}
