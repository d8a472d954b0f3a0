import java.io.IOException;
import java.nio.file.Files;
import java.nio.file.Path;
import java.util.ArrayList;
import java.util.Arrays;
import java.util.LinkedHashSet;
import java.util.List;
import java.util.Set;

/**
 * Lays the sentences by which the tests were named beside ../shared/DOC.md: each must stand there, in its promise or
 * ahead of all promises, and nothing that the document tells may be without a test, but what is listed here.
 * It is given the file of what the tests have told.
 */
public final class EverySentence {
  /** What names nothing that could hold or break of itself, or is told again, with its bounds, by a sentence with a test. */
  private static final String[] NO_BOUNDARY = {
    "Error codes, and NONE: there is none.",
    "A method that fails returns one of the error codes NO_SUCH (-1), BAD_VALUE (-2), BAD_TEXT (-3), TOO_MANY (-4) and NOT_POSSIBLE (-5);",
    "what later calls answer is free.",
    ": blur.", ": writings.", ": ticks.",
    "The spiral goes through all tracks:",
    "When an address is written, first,",
    "The pad is a text of at most 60 characters, requests:",
    "The constants:", "Settings.", "CONVENTIONS.", "Writing, reading", "The head, time",
    "They are given as a number:",
    "- `isByTracks`:", "- `what`:", "- `characters`:", "- `slot`:", "- `ticks`:", "- `number`:",
  };

  private final Set<String> broken = new LinkedHashSet<>();
  private final String[] parts;
  private final boolean[][] told;

  private EverySentence(String document) {
    // The part 0 is ahead of the promises, the part n is the promise n.
    parts = document.split("## Promise \\d+: ");
    told = new boolean[parts.length][];
    for (int part = 0; part < parts.length; part++) told[part] = new boolean[parts[part].length()];
  }

  public static void main(String[] args) throws IOException {
    List<String> lines = Files.readAllLines(Path.of(args[0]));
    EverySentence all = new EverySentence(plain(Files.readString(Path.of("../shared/DOC.md"))));
    int tests = 0;
    for (String line : lines) {
      String[] fields = line.split(" :: ");
      if (!line.matches("(ok    |WRONG )promise \\d+ :: .*") || fields.length < 3) continue;
      all.lay(Integer.parseInt(fields[0].replaceAll("\\D", "")), fields[1]);
      tests++;
    }
    all.lookForRest();
    for (String what : all.broken) System.out.println("  " + what);
    boolean isRight = all.broken.isEmpty() && tests > 0;
    System.out.println((isRight ? "ok    " : "WRONG ") + "every sentence of the document has a test, and every test a sentence");
    if (!isRight) System.exit(1);
  }

  /** The prose from the first section to the last promise, on one line; without the titles and the face as code. */
  private static String plain(String document) {
    String text = document.substring(document.indexOf("## What it is"), document.indexOf("## Not promised"));
    text = text.replaceAll("(?s)```java.*?```", " ");
    List<String> kept = new ArrayList<>();
    for (String line : text.split("\n")) {
      boolean isTitle = line.startsWith("#") && !line.startsWith("## Promise");
      boolean isFirst = line.startsWith("Land and groove written in turns");
      boolean isFace = line.startsWith("Ahead of the calls");
      if (!isTitle && !isFirst && !isFace) kept.add(line.replaceFirst("^`(int )?\\w+\\(.*?\\)`: ", ""));
    }
    return String.join(" ", kept).replaceAll("\\s+", " ");
  }

  private void lay(int promise, String sentence) {
    boolean isFound = mark(0, sentence);
    if (promise < parts.length) isFound |= mark(promise, sentence);
    if (!isFound) broken.add("the document does not say, at the promise " + promise + ": " + sentence);
  }

  private boolean mark(int part, String sentence) {
    boolean isFound = false;
    for (int at = parts[part].indexOf(sentence); at >= 0; at = parts[part].indexOf(sentence, at + 1)) {
      Arrays.fill(told[part], at, at + sentence.length(), true);
      isFound = true;
    }
    return isFound;
  }

  private void lookForRest() {
    for (String sentence : NO_BOUNDARY) {
      for (int part = 0; part < parts.length; part++) mark(part, sentence);
    }
    for (int part = 0; part < parts.length; part++) {
      StringBuilder rest = new StringBuilder();
      for (int at = 0; at < parts[part].length(); at++) rest.append(told[part][at] ? '\n' : parts[part].charAt(at));
      // The title of a promise is left of it: its name.
      String text = part == 0 ? rest.toString() : rest.toString().replaceFirst("^[\\w ]+? (?=\n|[A-Z])", "");
      for (String piece : text.split("\n+")) {
        if (piece.matches(".*\\w.*")) broken.add("no test, at the promise " + part + ", of: " + piece.strip());
      }
    }
  }
}
