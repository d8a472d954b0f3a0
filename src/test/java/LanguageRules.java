import com.sun.source.tree.*;
import com.sun.source.util.JavacTask;
import com.sun.source.util.TreePath;
import com.sun.source.util.TreePathScanner;
import com.sun.source.util.Trees;
import java.io.File;
import java.util.ArrayList;
import java.util.HashMap;
import java.util.HashSet;
import java.util.LinkedHashSet;
import java.util.List;
import java.util.Map;
import java.util.Set;
import javax.lang.model.element.Element;
import javax.lang.model.element.ElementKind;
import javax.lang.model.element.ExecutableElement;
import javax.lang.model.element.Modifier;
import javax.tools.JavaCompiler;
import javax.tools.StandardJavaFileManager;
import javax.tools.ToolProvider;

/** The rules of ../shared/LANGUAGE.md, as far as they can be read off the tree of the source. */
public final class LanguageRules {
  private static final String MAIN = "src/main/java/GrooveTurns.java";
  private static final int MOST_LINES = 60, MOST_DEEP = 8, MOST_PARAMETERS = 7, MOST_CLASSES = 12, MOST_FIELDS = 20;
  private static final Set<String> FACE = Set.of("set", "write", "read", "refresh", "seek", "idle", "run", "sector",
      "track", "count", "ticksFor", "ifRun", "untilLost", "worst", "put", "wipe", "fault", "undo", "save", "restore");
  private static final Set<String> CONSTANTS = Set.of("NO_SUCH", "BAD_VALUE", "BAD_TEXT", "TOO_MANY", "NOT_POSSIBLE",
      "NONE", "HEAT", "FAR", "LOST", "WEAR", "STEP");
  private static final Set<Tree.Kind> FORBIDDEN = Set.of(Tree.Kind.THROW, Tree.Kind.TRY, Tree.Kind.CATCH,
      Tree.Kind.SYNCHRONIZED, Tree.Kind.ASSERT, Tree.Kind.LAMBDA_EXPRESSION, Tree.Kind.MEMBER_REFERENCE,
      Tree.Kind.PACKAGE, Tree.Kind.ANNOTATION);
  private static final Map<String, String> LIBRARY = Map.of(
      "java.lang.String", "length|charAt|isEmpty|equals|indexOf|substring|toCharArray|<init>",
      "java.lang.StringBuilder", "<init>|append|charAt|setCharAt|setLength|deleteCharAt|reverse|length|toString",
      "java.util.ArrayList", "<init>|add|get|set|remove|size|isEmpty|clear",
      "java.util.List", "add|get|set|remove|size|isEmpty|clear|of",
      "java.lang.Math", "compare|max|min|abs|bitCount|floorDiv|floorMod",
      "java.lang.Integer", "compare|max|min|bitCount", "java.lang.Long", "compare|max|min|bitCount",
      "java.lang.System", "arraycopy", "java.util.Arrays", "copyOf|copyOfRange|fill", "java.lang.Object", "<init>");

  private final Set<String> broken = new LinkedHashSet<>();
  private final Map<Element, Set<Element>> calls = new HashMap<>();
  private int classes = 0;

  public static void main(String[] args) throws Exception {
    JavaCompiler compiler = ToolProvider.getSystemJavaCompiler();
    LanguageRules rules = new LanguageRules();
    try (StandardJavaFileManager files = compiler.getStandardFileManager(null, null, null)) {
      JavacTask task = (JavacTask) compiler.getTask(null, files, null, List.of("--release", "17"), null,
          files.getJavaFileObjects(new File(MAIN)));
      List<CompilationUnitTree> units = new ArrayList<>();
      for (CompilationUnitTree unit : task.parse()) units.add(unit);
      task.analyze();
      for (CompilationUnitTree unit : units) rules.look(unit, Trees.instance(task));
    }
    rules.ends();
  }

  private void look(CompilationUnitTree unit, Trees trees) {
    new Look(unit, trees).scan(unit, null);
  }

  private void breaks(int rule, String what) {
    broken.add("rule " + rule + ": " + what);
  }

  private void ends() {
    if (classes > MOST_CLASSES) breaks(11, classes + " classes");
    if (calls.isEmpty()) breaks(1, "no method was found");
    for (Element method : calls.keySet()) {
      int deep = depth(method, new HashSet<>());
      if (deep > MOST_DEEP) breaks(11, method + " goes " + deep + " deep");
    }
    for (String line : broken) System.out.println(line);
    if (!broken.isEmpty()) System.exit(1);
  }

  private int depth(Element method, Set<Element> open) {
    if (!open.add(method)) {
      breaks(8, method + " is a recursion");
      return 0;
    }
    int deepest = 0;
    for (Element called : calls.getOrDefault(method, Set.of())) deepest = Math.max(deepest, depth(called, open));
    open.remove(method);
    return deepest + 1;
  }

  private final class Look extends TreePathScanner<Void, Void> {
    private final CompilationUnitTree unit;
    private final Trees trees;

    Look(CompilationUnitTree unit, Trees trees) {
      this.unit = unit;
      this.trees = trees;
    }

    @Override public Void scan(Tree tree, Void nothing) {
      if (tree != null && FORBIDDEN.contains(tree.getKind())) breaks(6, tree.getKind() + " at line " + line(tree));
      return super.scan(tree, nothing);
    }

    private long line(Tree tree) {
      return unit.getLineMap().getLineNumber(trees.getSourcePositions().getStartPosition(unit, tree));
    }

    private long lines(Tree tree) {
      return unit.getLineMap().getLineNumber(trees.getSourcePositions().getEndPosition(unit, tree)) - line(tree) + 1;
    }

    @Override public Void visitClass(ClassTree tree, Void nothing) {
      classes++;
      Element element = trees.getElement(getCurrentPath());
      boolean isMain = getCurrentPath().getParentPath().getLeaf().getKind() == Tree.Kind.COMPILATION_UNIT;
      Set<Modifier> modifiers = element.getModifiers();
      if (isMain && !(modifiers.contains(Modifier.PUBLIC) && modifiers.contains(Modifier.FINAL))) breaks(1, "the class");
      if (!isMain && !modifiers.contains(Modifier.STATIC)) breaks(2, element + " is not static");
      if (!isMain && (modifiers.contains(Modifier.PUBLIC) || modifiers.contains(Modifier.PROTECTED))) breaks(1, "" + element);
      int fields = 0;
      for (Element inside : element.getEnclosedElements()) {
        boolean isStatic = inside.getModifiers().contains(Modifier.STATIC);
        if (inside.getKind() == ElementKind.FIELD && !isStatic) fields++;
        if (inside.getKind() == ElementKind.FIELD && isStatic) constant(inside);
        if (isMain) faceMember(inside);
      }
      if (fields > MOST_FIELDS) breaks(11, element + " has " + fields + " fields");
      return super.visitClass(tree, nothing);
    }

    private void constant(Element field) {
      if (!field.getModifiers().contains(Modifier.FINAL)) breaks(5, field + " is not final");
      if (!Set.of("int", "long", "boolean", "char", "java.lang.String", "int[]", "long[]", "char[]", "byte[]")
          .contains(field.asType().toString())) breaks(5, field + " is " + field.asType());
    }

    private void faceMember(Element member) {
      String name = member.getSimpleName().toString();
      if (member.getModifiers().contains(Modifier.PRIVATE) || member.getKind().isClass()) return;
      boolean isDue = member.getKind() == ElementKind.CONSTRUCTOR
          || member.getKind() == ElementKind.METHOD && FACE.contains(name)
          || member.getKind() == ElementKind.FIELD && CONSTANTS.contains(name);
      if (!isDue || !member.getModifiers().contains(Modifier.PUBLIC)) breaks(1, name + " is no member of the face");
    }

    @Override public Void visitMethod(MethodTree tree, Void nothing) {
      ExecutableElement method = (ExecutableElement) trees.getElement(getCurrentPath());
      calls.putIfAbsent(method, new HashSet<>());
      boolean isPublic = method.getModifiers().contains(Modifier.PUBLIC);
      if (!isPublic && FACE.contains(method.getSimpleName().toString())) breaks(1, method + " bears a name of the face");
      if (tree.getParameters().size() > MOST_PARAMETERS) breaks(11, method + " takes too many");
      if (lines(tree) > MOST_LINES) breaks(11, method + " has " + lines(tree) + " lines");
      if (Set.of("equals", "hashCode", "toString").contains(method.getSimpleName().toString())) breaks(6, "" + method);
      return super.visitMethod(tree, nothing);
    }

    @Override public Void visitMethodInvocation(MethodInvocationTree tree, Void nothing) {
      called(trees.getElement(new TreePath(getCurrentPath(), tree.getMethodSelect())));
      return super.visitMethodInvocation(tree, nothing);
    }

    @Override public Void visitNewClass(NewClassTree tree, Void nothing) {
      if (tree.getClassBody() != null) breaks(2, "an anonymous class at line " + line(tree));
      called(trees.getElement(getCurrentPath()));
      return super.visitNewClass(tree, nothing);
    }

    private void called(Element target) {
      String owner = target.getEnclosingElement().toString();
      if (!owner.startsWith("GrooveTurns")) {
        String name = target.getSimpleName().toString();
        String known = LIBRARY.getOrDefault(owner.replaceAll("<.*", ""), "");
        if (!name.matches(known) && !owner.equals("Array")) breaks(4, owner + "." + name);
        return;
      }
      TreePath path = getCurrentPath();
      while (path != null && path.getLeaf().getKind() != Tree.Kind.METHOD) path = path.getParentPath();
      if (path != null) calls.computeIfAbsent(trees.getElement(path), m -> new HashSet<>()).add(target);
    }

    @Override public Void visitBlock(BlockTree tree, Void nothing) {
      if (getCurrentPath().getParentPath().getLeaf() instanceof ClassTree) breaks(5, "an initialiser block");
      return super.visitBlock(tree, nothing);
    }

    @Override public Void visitBinary(BinaryTree tree, Void nothing) {
      String type = String.valueOf(trees.getTypeMirror(getCurrentPath()));
      if (tree.getKind() == Tree.Kind.PLUS && type.equals("java.lang.String")) breaks(10, "+ of texts at line " + line(tree));
      return super.visitBinary(tree, nothing);
    }
  }
}
