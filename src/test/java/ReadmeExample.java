import java.io.IOException;
import java.net.URL;
import java.net.URLClassLoader;
import java.nio.file.Files;
import java.nio.file.Path;
import java.util.regex.Matcher;
import java.util.regex.Pattern;
import javax.tools.ToolProvider;

/** The example of README.md: compiled as it stands there, each call must answer what the remark behind it says. */
public final class ReadmeExample {
  private static final Pattern ANSWERED = Pattern.compile("\\s*(disc\\.\\w+\\(.*\\));\\s*// (-?\\d+): .*");
  private static final Pattern PUT_TEXT = Pattern.compile("disc\\.put\\((0x\\w+)L\\);.*\"(.*)\"");

  private static final Due due = new Due();

  /** The compiled example calls this, so that it is public. */
  public static void is(String call, long got, long want) {
    due.is(call, got, want);
  }

  public static void main(String[] args) throws Exception {
    String example = example(Files.readString(Path.of("README.md")));
    is("an example in README.md", example.contains("disc.") ? 1 : 0, 1);
    Matcher text = PUT_TEXT.matcher(example);
    while (text.find()) is("the text of " + text.group(1), Long.decode(text.group(1)), Run.packed(text.group(2)));
    Path folder = Files.createTempDirectory("readme");
    try {
      start(folder, example);
    } finally {
      for (String name : new String[] {"Example.java", "Example.class"}) Files.deleteIfExists(folder.resolve(name));
      Files.delete(folder);
    }
    if (!due.isRight()) System.exit(1);
  }

  private static String example(String readme) {
    int begin = readme.indexOf("```java");
    int end = readme.indexOf("```", begin + 1);
    return begin < 0 || end < 0 ? "" : readme.substring(begin + "```java".length(), end);
  }

  private static void start(Path folder, String example) throws IOException, ReflectiveOperationException {
    StringBuilder code = new StringBuilder("public final class Example { public static void done() {\n");
    for (String line : example.split("\n")) {
      Matcher answered = ANSWERED.matcher(line);
      boolean isAnswered = answered.matches();
      String call = isAnswered ? answered.group(1) : "";
      if (!isAnswered && line.contains("disc.")) is("a call without an answer: " + line, 0, 1);
      code.append(isAnswered ? "ReadmeExample.is(\"" + call + "\", " + call + ", " + answered.group(2) + ");" : line);
      code.append('\n');
    }
    Path source = Files.writeString(folder.resolve("Example.java"), code.append("} }\n"));
    String path = System.getProperty("java.class.path");
    int failed = ToolProvider.getSystemJavaCompiler().run(null, null, null, "-cp", path, "-d", "" + folder, "" + source);
    is("javac of the example", failed, 0);
    if (failed != 0) return;
    try (URLClassLoader loader = new URLClassLoader(new URL[] {folder.toUri().toURL()})) {
      loader.loadClass("Example").getMethod("done").invoke(null);
    }
  }
}
