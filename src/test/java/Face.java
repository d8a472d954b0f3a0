import java.io.IOException;
import java.lang.reflect.Constructor;
import java.lang.reflect.Field;
import java.lang.reflect.Method;
import java.lang.reflect.Modifier;
import java.nio.file.Files;
import java.nio.file.Path;
import java.util.Arrays;
import java.util.Set;
import java.util.TreeSet;
import java.util.stream.Collectors;

/** The public face: what the compiled class shows, beside the face that ../shared/DOC.md writes out. */
public final class Face {
  private static final Set<String> broken = new TreeSet<>();

  public static void main(String[] args) throws IOException, IllegalAccessException {
    Set<String> due = promised(Files.readString(Path.of("../shared/DOC.md")));
    Set<String> got = shown(GrooveTurns.class);
    for (String member : due) if (!got.contains(member)) broken.add("not shown: " + member);
    for (String member : got) if (!due.contains(member)) broken.add("not promised: " + member);
    for (Class<?> inside : GrooveTurns.class.getDeclaredClasses()) inside(inside);
    if (due.size() < 3) broken.add("the document's face was not found");
    for (String what : broken) System.out.println("  " + what);
    if (!broken.isEmpty()) System.exit(1);
  }

  /** Each constant in a line of its own, and the methods by the types that they take. */
  private static Set<String> promised(String document) {
    Set<String> face = new TreeSet<>();
    String code = document.substring(document.indexOf("```java") + "```java".length());
    for (String line : code.substring(0, code.indexOf("```")).split("\n")) {
      String text = line.strip();
      if (text.startsWith("public static final int ")) {
        String constants = text.substring("public static final int ".length(), text.length() - 1);
        for (String constant : constants.split(", ")) face.add("public static final int " + constant);
      } else if (text.endsWith(";")) {
        face.add(text.substring(0, text.length() - 1).replaceAll("(int|long|boolean) \\w+(?=[,)])", "$1"));
      } else if (text.endsWith("{")) {
        face.add(text.substring(0, text.length() - 1).strip());
      }
    }
    return face;
  }

  private static Set<String> shown(Class<?> shown) throws IllegalAccessException {
    Set<String> face = new TreeSet<>();
    face.add(Modifier.toString(shown.getModifiers()) + " class " + shown.getName());
    if (shown.getSuperclass() != Object.class) face.add("extends " + shown.getSuperclass());
    for (Class<?> kind : shown.getInterfaces()) face.add("implements " + kind);
    for (Field field : shown.getDeclaredFields()) {
      if (Modifier.isPrivate(field.getModifiers())) continue;
      String value = Modifier.isStatic(field.getModifiers()) ? " = " + field.get(null) : "";
      face.add(Modifier.toString(field.getModifiers()) + " " + field.getType() + " " + field.getName() + value);
    }
    for (Constructor<?> made : shown.getDeclaredConstructors()) {
      if (Modifier.isPrivate(made.getModifiers())) continue;
      face.add(Modifier.toString(made.getModifiers()) + " " + made.getName() + types(made.getParameterTypes()));
    }
    for (Method method : shown.getDeclaredMethods()) {
      if (Modifier.isPrivate(method.getModifiers())) continue;
      face.add(Modifier.toString(method.getModifiers()) + " " + method.getReturnType() + " " + method.getName()
          + types(method.getParameterTypes()));
    }
    return face;
  }

  private static String types(Class<?>[] types) {
    return Arrays.stream(types).map(Class::getName).collect(Collectors.joining(", ", "(", ")"));
  }

  private static void inside(Class<?> inside) {
    int modifiers = inside.getModifiers();
    boolean isShown = Modifier.isPublic(modifiers) || Modifier.isProtected(modifiers);
    if (isShown || !Modifier.isStatic(modifiers)) broken.add("not promised: " + inside);
  }
}
