import com.sun.source.tree.AssertTree;
import com.sun.source.tree.BinaryTree;
import com.sun.source.tree.BlockTree;
import com.sun.source.tree.ClassTree;
import com.sun.source.tree.CompilationUnitTree;
import com.sun.source.tree.IdentifierTree;
import com.sun.source.tree.LambdaExpressionTree;
import com.sun.source.tree.MemberReferenceTree;
import com.sun.source.tree.MemberSelectTree;
import com.sun.source.tree.MethodInvocationTree;
import com.sun.source.tree.MethodTree;
import com.sun.source.tree.NewClassTree;
import com.sun.source.tree.SynchronizedTree;
import com.sun.source.tree.ThrowTree;
import com.sun.source.tree.Tree;
import com.sun.source.tree.TryTree;
import com.sun.source.tree.VariableTree;
import com.sun.source.util.JavacTask;
import com.sun.source.util.SourcePositions;
import com.sun.source.util.TreePathScanner;
import com.sun.source.util.Trees;
import java.io.IOException;
import java.net.URI;
import java.nio.file.Files;
import java.nio.file.Path;
import java.util.HashSet;
import java.util.LinkedHashMap;
import java.util.List;
import java.util.Map;
import java.util.Set;
import java.util.TreeSet;
import java.util.stream.Collectors;
import javax.lang.model.element.Element;
import javax.lang.model.element.ElementKind;
import javax.lang.model.element.Modifier;
import javax.lang.model.type.TypeKind;
import javax.lang.model.type.TypeMirror;
import javax.tools.JavaFileObject;
import javax.tools.JavaFileObject.Kind;
import javax.tools.SimpleJavaFileObject;
import javax.tools.ToolProvider;

/** The rules of LANGUAGE.md that can be read off the program's source. */
public final class LanguageTest extends TreePathScanner<Void, Void> {
  private static final Path SOURCE = Path.of("src/main/java/PlaceFinder.java");
  private static final int MOST_PARAMETERS = 7;
  private static final int MOST_LINES = 60;
  private static final int MOST_CALLS_DEEP = 8;
  private static final int MOST_CLASSES = 12;
  private static final int MOST_FIELDS = 20;

  private static final Set<String> EXCEPTIONS = Set.of("IllegalStateException", "IllegalArgumentException",
      "IndexOutOfBoundsException", "ArithmeticException", "UnsupportedOperationException",
      "NoSuchElementException", "RuntimeException");
  private static final Set<String> LIST = Set.of("add", "get", "set", "remove", "size", "isEmpty", "clear", "of");
  private static final Map<String, Set<String>> LIBRARY = Map.of(
      "java.lang.String", Set.of("length", "charAt", "isEmpty", "equals", "indexOf", "substring", "toCharArray"),
      "java.lang.StringBuilder", Set.of("append", "charAt", "setCharAt", "setLength", "deleteCharAt", "reverse",
          "length", "toString"),
      "java.util.ArrayList", LIST,
      "java.util.List", LIST,
      "java.lang.System", Set.of("arraycopy"),
      "java.util.Arrays", Set.of("copyOf", "copyOfRange", "fill"));
  private static final Set<String> FUNCTIONS = Set.of("java.lang.Integer", "java.lang.Long", "java.lang.Math");
  private static final Set<String> TYPES = Set.of("java.lang.String", "java.lang.StringBuilder",
      "java.util.ArrayList", "java.util.List");
  private static final Set<String> OWN_INTERFACES = Set.of("java.util.Iterator", "java.lang.Iterable",
      "java.lang.Comparable");
  private static final Set<String> CONSTANT_TYPES = Set.of("int", "long", "boolean", "char", "java.lang.String",
      "int[]", "long[]", "char[]", "byte[]");

  private final Trees trees;
  private final SourcePositions positions;
  private final CompilationUnitTree unit;
  private final Set<String> broken = new TreeSet<>();
  /** For each method of the program those that it calls, itself left out. */
  private final Map<Element, Set<Element>> calls = new LinkedHashMap<>();
  private int classes = 0;

  private LanguageTest(Trees trees, CompilationUnitTree unit) {
    this.trees = trees;
    this.positions = trees.getSourcePositions();
    this.unit = unit;
  }

  public static void main(String[] args) throws IOException {
    String program = Files.readString(SOURCE);
    Check.due("the rules of LANGUAGE.md", "[]", () -> brokenRules(program));
    ownEyes();
    Check.end();
  }

  /** That a breach would be seen at all. */
  private static void ownEyes() {
    sees("[]", "private int[][] a; private java.util.ArrayList<Own> b; private Own[] c; private char d;"
        + " private java.util.List<Integer> e; private static final class Own { }");
    sees("[1]", "private class Own { }");
    sees("[1]", "public static class Own { }");
    sees("[2]", "private interface Own { int f(int a); } private Own own() { return a -> a; }");
    sees("[2]", "private interface Own { int f(int a); } private Own own() { return Math::abs; }");
    sees("[3, 4]", "private Object own;");
    sees("[3]", "private String[] own;");
    sees("[3]", "private int[][][] own;");
    sees("[3]", "private java.util.ArrayList<String> own;");
    sees("[3, 4]", "private java.util.HashMap<Integer, Integer> own;");
    sees("[3]", "private char own = '" + (char) 256 + "';");
    sees("[4]", "private int own = Integer.MAX_VALUE;");
    sees("[4]", "private int own = Math.addExact(1, 1);");
    sees("[4]", "private double own = Math.abs(1.0);");
    sees("[4]", "private long own = System.nanoTime();");
    sees("[4]", "private boolean own(String a) { return a.startsWith(a); }");
    sees("[5]", "private static int own = 1;");
    sees("[5]", "private static final Own OWN = new Own(); private static final class Own { }");
    sees("[5]", "static { int own = 1; }");
    sees("[6]", "private PlaceFinder(int a) { throw new IllegalStateException(); }");
    sees("[3, 6]", "private void own(IllegalStateException e) { throw e; }");
    sees("[6]", "private void own(String a) { throw new IllegalStateException(a); }");
    sees("[6]", "private void own() { try { own(); } finally { own(); } }");
    sees("[6]", "private void own() { synchronized (this) { own(); } }");
    sees("[6]", "private void own() { assert true; }");
    sees("[10]", "private String own(int a) { return a + \"\"; }");
    sees("[11]", "private void own(int a, int b, int c, int d, int e, int f, int g, int h) { }");
    sees("[11]", "private void own() {" + "\n".repeat(MOST_LINES) + "}");
    sees("[]", chain(MOST_CALLS_DEEP));
    sees("[11]", chain(MOST_CALLS_DEEP + 1));
  }

  /** Methods that call one another, so many deep. */
  private static String chain(int deep) {
    StringBuilder members = new StringBuilder();
    for (int i = 1; i < deep; i++) {
      members.append("private void own").append(i).append("() { own").append(i + 1).append("(); }\n");
    }
    return members.append("private void own").append(deep).append("() { }").toString();
  }

  private static void sees(String rules, String members) {
    Check.due(members, rules, () -> brokenRules("public final class PlaceFinder {\n" + members + "\n}").stream()
        .map(line -> Integer.valueOf(line.replaceAll("rule (\\d+).*", "$1")))
        .collect(Collectors.toCollection(TreeSet::new)));
  }

  private static Set<String> brokenRules(String program) {
    JavaFileObject file = new SimpleJavaFileObject(URI.create("string:///PlaceFinder.java"), Kind.SOURCE) {
      @Override
      public CharSequence getCharContent(boolean ignoreEncodingErrors) {
        return program;
      }
    };
    JavacTask task = (JavacTask) ToolProvider.getSystemJavaCompiler()
        .getTask(null, null, null, List.of("-proc:none"), null, List.of(file));
    try {
      CompilationUnitTree unit = task.parse().iterator().next();
      task.analyze();
      LanguageTest test = new LanguageTest(Trees.instance(task), unit);
      test.scan(unit, null);
      test.wholeFile(program);
      return test.broken;
    } catch (IOException e) {
      throw new IllegalStateException(e);
    }
  }

  private void wholeFile(String text) {
    keeps(11, classes <= MOST_CLASSES, classes + " classes", unit);
    keeps(3, text.chars().allMatch(c -> c <= 255), "a character above 255", unit);
    keeps(1, unit.getPackageName() == null, "a package line", unit);
    for (Element method : calls.keySet()) {
      int deep = depth(method, new HashSet<>());
      keeps(11, deep <= MOST_CALLS_DEEP, method + " goes " + deep + " calls deep", unit);
    }
  }

  private int depth(Element method, Set<Element> open) {
    int deepest = 0;
    open.add(method);
    for (Element called : calls.getOrDefault(method, Set.of())) {
      if (!open.contains(called)) {
        deepest = Math.max(deepest, depth(called, open));
      }
    }
    open.remove(method);
    return deepest + 1;
  }

  private void keeps(int rule, boolean isKept, String what, Tree where) {
    if (!isKept) {
      long line = unit.getLineMap().getLineNumber(positions.getStartPosition(unit, where));
      broken.add("rule " + rule + ", line " + line + ": " + what);
    }
  }

  private Element element() {
    return trees.getElement(getCurrentPath());
  }

  private static boolean isLibraryType(Element named) {
    boolean isType = named != null && (named.getKind().isClass() || named.getKind().isInterface());
    return isType && named.toString().startsWith("java.");
  }

  private boolean isMember() {
    return getCurrentPath().getParentPath().getLeaf() instanceof ClassTree;
  }

  @Override
  public Void visitClass(ClassTree tree, Void none) {
    classes++;
    Set<Modifier> flags = tree.getModifiers().getFlags();
    boolean isFace = tree.getSimpleName().contentEquals("PlaceFinder");
    keeps(1, isFace ? flags.equals(Set.of(Modifier.PUBLIC, Modifier.FINAL)) : isMember(), "a class outside", tree);
    keeps(1, isFace || element().getModifiers().contains(Modifier.STATIC), "an inner class", tree);
    keeps(1, isFace || !flags.contains(Modifier.PUBLIC) && !flags.contains(Modifier.PROTECTED), "a class seen", tree);
    long fields = tree.getMembers().stream().filter(LanguageTest::isOwnField).count();
    keeps(11, fields <= MOST_FIELDS, fields + " fields", tree);
    return super.visitClass(tree, none);
  }

  private static boolean isOwnField(Tree member) {
    return member instanceof VariableTree field && !field.getModifiers().getFlags().contains(Modifier.STATIC);
  }

  @Override
  public Void visitVariable(VariableTree tree, Void none) {
    Set<Modifier> flags = tree.getModifiers().getFlags();
    TypeMirror type = element().asType();
    keeps(3, isType(type), "the type " + type, tree);
    if (isMember() && flags.contains(Modifier.STATIC)) {
      keeps(5, flags.contains(Modifier.FINAL) && tree.getInitializer() != null, "a static field", tree);
      keeps(5, CONSTANT_TYPES.contains(type.toString()), "a constant of type " + type, tree);
    }
    return super.visitVariable(tree, none);
  }

  /** By its text: generic ones as ArrayList<PlaceFinder.Place>, arrays with [] behind. */
  private static boolean isType(TypeMirror type) {
    String text = type.toString();
    String one = text.replace("[]", "");
    boolean isNumber = !one.contains(".") && type.getKind() != TypeKind.DECLARED && !one.startsWith("PlaceFinder");
    int dimensions = (text.length() - one.length()) / 2;
    String inside = one.contains("<") ? one.substring(one.indexOf('<') + 1, one.length() - 1) : one;
    String outside = one.contains("<") ? one.substring(0, one.indexOf('<')) : one;
    boolean isOwn = inside.startsWith("PlaceFinder");
    boolean isHeld = isOwn || inside.equals("java.lang.Integer");
    if (dimensions > 0) {
      return isNumber ? dimensions <= 2 : dimensions == 1 && isOwn && inside.equals(one);
    }
    return isNumber || (inside.equals(one) ? isOwn || TYPES.contains(one) : TYPES.contains(outside) && isHeld);
  }

  @Override
  public Void visitMethod(MethodTree tree, Void none) {
    calls.putIfAbsent(element(), new HashSet<>());
    keeps(11, tree.getParameters().size() <= MOST_PARAMETERS, "too many parameters", tree);
    long first = positions.getStartPosition(unit, tree);
    long last = positions.getEndPosition(unit, tree);
    if (last > first) {
      long lines = unit.getLineMap().getLineNumber(last) - unit.getLineMap().getLineNumber(first) + 1;
      keeps(11, lines <= MOST_LINES, tree.getName() + " has " + lines + " lines", tree);
    }
    return super.visitMethod(tree, none);
  }

  @Override
  public Void visitMethodInvocation(MethodInvocationTree tree, Void none) {
    noteCall(element());
    return super.visitMethodInvocation(tree, none);
  }

  @Override
  public Void visitNewClass(NewClassTree tree, Void none) {
    Element made = element();
    noteCall(made);
    String owner = made.getEnclosingElement().toString();
    boolean isThrown = getCurrentPath().getParentPath().getLeaf() instanceof ThrowTree;
    boolean isListed = TYPES.contains(owner) || (isThrown && EXCEPTIONS.contains(simple(owner)));
    keeps(4, !isLibraryType(made.getEnclosingElement()) || isListed, "new " + owner, tree);
    return super.visitNewClass(tree, none);
  }

  private void noteCall(Element called) {
    for (var path = getCurrentPath(); path != null; path = path.getParentPath()) {
      if (path.getLeaf() instanceof MethodTree) {
        Element caller = trees.getElement(path);
        if (caller != called) {
          calls.computeIfAbsent(caller, any -> new HashSet<>()).add(called);
        }
      }
    }
  }

  @Override
  public Void visitMemberSelect(MemberSelectTree tree, Void none) {
    Element member = element();
    Element owner = member == null ? null : member.getEnclosingElement();
    looksAtType(member, tree);
    if (isLibraryType(owner) && !isLibraryType(member)) {
      keeps(4, isListed(member, owner.toString()), owner + "." + member, tree);
    }
    return super.visitMemberSelect(tree, none);
  }

  private static boolean isListed(Element member, String owner) {
    if (member.getKind() != ElementKind.METHOD) {
      return false;
    }
    String name = member.getSimpleName().toString();
    String ownerName = owner.replaceAll("<.*", "");
    return FUNCTIONS.contains(ownerName)
        ? member.getModifiers().contains(Modifier.STATIC) && !name.endsWith("Exact") && isOverWholeNumbers(member)
        : LIBRARY.getOrDefault(ownerName, Set.of()).contains(name);
  }

  private static boolean isOverWholeNumbers(Element function) {
    String type = function.asType().toString();
    return !type.contains("double") && !type.contains("float") && !type.contains("java");
  }

  @Override
  public Void visitIdentifier(IdentifierTree tree, Void none) {
    looksAtType(element(), tree);
    return super.visitIdentifier(tree, none);
  }

  private void looksAtType(Element named, Tree tree) {
    String name = String.valueOf(named);
    boolean isListed = TYPES.contains(name) || LIBRARY.containsKey(name) || FUNCTIONS.contains(name)
        || OWN_INTERFACES.contains(name) || EXCEPTIONS.contains(simple(name));
    keeps(4, !isLibraryType(named) || isListed, name, tree);
  }

  private static String simple(String name) {
    return name.substring(name.lastIndexOf('.') + 1);
  }

  @Override
  public Void visitThrow(ThrowTree tree, Void none) {
    boolean isNew = tree.getExpression() instanceof NewClassTree;
    keeps(6, isNew, "throws what is not new", tree);
    if (tree.getExpression() instanceof NewClassTree made) {
      keeps(6, EXCEPTIONS.contains(simple(made.getIdentifier().toString())), "throws " + made, tree);
      boolean isWritten = made.getArguments().stream().allMatch(a -> a.getKind() == Tree.Kind.STRING_LITERAL);
      keeps(6, isWritten && made.getArguments().size() <= 1, "a text that is not written", tree);
    }
    for (var path = getCurrentPath(); path != null; path = path.getParentPath()) {
      boolean isInConstructor = path.getLeaf() instanceof MethodTree method && method.getReturnType() == null;
      keeps(6, !isInConstructor, "a throw in a constructor", tree);
    }
    return super.visitThrow(tree, none);
  }

  @Override
  public Void visitTry(TryTree tree, Void none) {
    keeps(6, tree.getFinallyBlock() == null && tree.getResources().isEmpty(), "finally or resources", tree);
    return super.visitTry(tree, none);
  }

  @Override
  public Void visitBinary(BinaryTree tree, Void none) {
    String type = String.valueOf(trees.getTypeMirror(getCurrentPath()));
    keeps(10, !type.equals("java.lang.String"), "texts joined by +", tree);
    return super.visitBinary(tree, none);
  }

  @Override
  public Void visitBlock(BlockTree tree, Void none) {
    keeps(5, !tree.isStatic(), "a static initialiser", tree);
    return super.visitBlock(tree, none);
  }

  @Override
  public Void visitLambdaExpression(LambdaExpressionTree tree, Void none) {
    keeps(2, false, "a lambda", tree);
    return super.visitLambdaExpression(tree, none);
  }

  @Override
  public Void visitMemberReference(MemberReferenceTree tree, Void none) {
    keeps(2, false, "a method reference", tree);
    return super.visitMemberReference(tree, none);
  }

  @Override
  public Void visitSynchronized(SynchronizedTree tree, Void none) {
    keeps(6, false, "synchronized", tree);
    return super.visitSynchronized(tree, none);
  }

  @Override
  public Void visitAssert(AssertTree tree, Void none) {
    keeps(6, false, "assert", tree);
    return super.visitAssert(tree, none);
  }
}
