import com.sun.source.tree.ArrayAccessTree;
import com.sun.source.tree.AssignmentTree;
import com.sun.source.tree.BinaryTree;
import com.sun.source.tree.ClassTree;
import com.sun.source.tree.CompilationUnitTree;
import com.sun.source.tree.ExpressionTree;
import com.sun.source.tree.IdentifierTree;
import com.sun.source.tree.LineMap;
import com.sun.source.tree.LiteralTree;
import com.sun.source.tree.MemberSelectTree;
import com.sun.source.tree.MethodInvocationTree;
import com.sun.source.tree.MethodTree;
import com.sun.source.tree.NewArrayTree;
import com.sun.source.tree.NewClassTree;
import com.sun.source.tree.Tree;
import com.sun.source.tree.VariableTree;
import com.sun.source.util.JavacTask;
import com.sun.source.util.SourcePositions;
import com.sun.source.util.TreePath;
import com.sun.source.util.TreePathScanner;
import com.sun.source.util.Trees;
import java.io.IOException;
import java.nio.file.Path;
import java.util.ArrayList;
import java.util.EnumSet;
import java.util.HashSet;
import java.util.List;
import java.util.Map;
import java.util.Set;
import java.util.TreeMap;
import java.util.TreeSet;
import javax.lang.model.element.Element;
import javax.lang.model.element.ElementKind;
import javax.lang.model.element.Modifier;
import javax.lang.model.element.TypeElement;
import javax.lang.model.type.TypeKind;
import javax.lang.model.type.TypeMirror;
import javax.tools.JavaCompiler;
import javax.tools.StandardJavaFileManager;
import javax.tools.ToolProvider;

/** The rules of LANGUAGE.md that can be seen in the tree that javac makes of the class. */
public final class LanguageTest extends TreePathScanner<Void, Void> {
  private static final Path SOURCE = Path.of("src/main/java/SoldYear.java");
  private static final int MOST_LINES = 60;
  private static final int MOST_DEEP = 8;

  /** Rule 4: what of the library the class uses; all of it stands in the rule's list. */
  private static final Set<String> LIBRARY = Set.of(
      "java.lang.Math.max", "java.lang.Math.min", "java.lang.System.arraycopy", "java.util.Arrays.fill",
      "java.lang.String.indexOf", "java.lang.Object.<init>");

  /** Rule 2, 6: what stands nowhere in the class. */
  private static final Set<Tree.Kind> BANNED = EnumSet.of(
      Tree.Kind.THROW, Tree.Kind.TRY, Tree.Kind.CATCH, Tree.Kind.SYNCHRONIZED, Tree.Kind.ASSERT, Tree.Kind.LAMBDA_EXPRESSION,
      Tree.Kind.MEMBER_REFERENCE, Tree.Kind.ANNOTATION);

  /** Rule 8: what calls itself, by a depth that it carries: a TEXT's rows and ones, and a VOICE's BODIES. */
  private static final Set<String> RINGS = Set.of("Scribe.readChain", "Scribe.readOne", "Scribe.readNot",
      "Scribe.readBrackets", "Choir.call", "Choir.work", "Choir.partAndAge");

  private final Trees trees;
  private final CompilationUnitTree unit;
  private final Set<String> used = new TreeSet<>();
  private final Map<String, Set<String>> calls = new TreeMap<>();
  private final Set<String> acts = new TreeSet<>();
  private String method = "";
  private int classes;

  private LanguageTest(Trees trees, CompilationUnitTree unit) {
    this.trees = trees;
    this.unit = unit;
  }

  public static void main(String[] args) throws IOException {
    JavaCompiler compiler = ToolProvider.getSystemJavaCompiler();
    try (StandardJavaFileManager files = compiler.getStandardFileManager(null, null, null)) {
      JavacTask task = (JavacTask) compiler.getTask(null, files, null, List.of(), null, files.getJavaFileObjects(SOURCE));
      CompilationUnitTree unit = task.parse().iterator().next();
      task.analyze();
      LanguageTest test = new LanguageTest(Trees.instance(task), unit);
      test.scan(unit, null);
      test.whole();
    }
    Checks.end("LanguageTest");
  }

  private void rule(int number, String what, boolean kept) {
    Checks.due("rule " + number + ": " + what, kept ? 1 : 0, 1);
  }

  private String place(Tree tree) {
    SourcePositions positions = trees.getSourcePositions();
    LineMap lines = unit.getLineMap();
    return "line " + lines.getLineNumber(positions.getStartPosition(unit, tree));
  }

  private int lines(Tree tree) {
    SourcePositions positions = trees.getSourcePositions();
    LineMap lines = unit.getLineMap();
    return (int) (lines.getLineNumber(positions.getEndPosition(unit, tree))
        - lines.getLineNumber(positions.getStartPosition(unit, tree)) + 1);
  }

  private void whole() {
    rule(1, "no package, one class", unit.getPackageName() == null && unit.getTypeDecls().size() == 1);
    rule(4, "only the library's " + LIBRARY + " is used: " + used, LIBRARY.containsAll(used));
    rule(11, "twelve classes at most: " + classes, classes <= 12);
    rule(1, "43 acts and what is called by them", acts.size() == 44 && calls.size() > 44);
    for (String act : acts) {
      int deep = deepest(act, new HashSet<>());
      rule(11, act + " goes eight deep at most: " + deep, deep <= MOST_DEEP);
    }
    rule(8, "what calls itself is told here: " + ringed(), ringed().equals(RINGS));
  }

  private Set<String> ringed() {
    Set<String> ringed = new TreeSet<>();
    for (String start : calls.keySet()) {
      if (reached(start).contains(start)) {
        ringed.add(start);
      }
    }
    return ringed;
  }

  private Set<String> reached(String start) {
    Set<String> seen = new HashSet<>();
    List<String> open = new ArrayList<>(calls.getOrDefault(start, Set.of()));
    while (!open.isEmpty()) {
      String next = open.remove(open.size() - 1);
      if (seen.add(next)) {
        open.addAll(calls.getOrDefault(next, Set.of()));
      }
    }
    return seen;
  }

  /** How many methods stand open at once; what calls itself counts once. */
  private int deepest(String start, Set<String> open) {
    if (!open.add(start)) {
      return 0;
    }
    int deep = 0;
    for (String next : calls.getOrDefault(start, Set.of())) {
      if (!RINGS.contains(start) || !RINGS.contains(next)) {
        deep = Math.max(deep, deepest(next, open));
      }
    }
    open.remove(start);
    return deep + 1;
  }

  @Override public Void scan(Tree tree, Void nothing) {
    if (tree != null) {
      rule(6, place(tree) + " is no " + tree.getKind(), !BANNED.contains(tree.getKind()));
    }
    return super.scan(tree, nothing);
  }

  @Override public Void visitClass(ClassTree tree, Void nothing) {
    classes++;
    Set<Modifier> modifiers = tree.getModifiers().getFlags();
    boolean outer = getCurrentPath().getParentPath().getLeaf() == unit;
    rule(2, tree.getSimpleName() + " is the public one, or private and static", modifiers.equals(outer
        ? EnumSet.of(Modifier.PUBLIC, Modifier.FINAL) : EnumSet.of(Modifier.PRIVATE, Modifier.STATIC, Modifier.FINAL)));
    rule(2, tree.getSimpleName() + " extends nothing", tree.getExtendsClause() == null && tree.getImplementsClause().isEmpty());
    int fields = 0;
    for (Tree member : tree.getMembers()) {
      rule(5, "no block stands in " + tree.getSimpleName(), member.getKind() != Tree.Kind.BLOCK);
      if (member instanceof VariableTree field) {
        fields += field.getModifiers().getFlags().contains(Modifier.STATIC) ? 0 : 1;
        field(field);
      }
    }
    rule(11, tree.getSimpleName() + " has twenty fields at most", fields <= 20);
    return super.visitClass(tree, nothing);
  }

  private void field(VariableTree field) {
    Set<Modifier> modifiers = field.getModifiers().getFlags();
    rule(1, field.getName() + " is private", modifiers.contains(Modifier.PRIVATE));
    if (modifiers.contains(Modifier.STATIC)) {
      String type = field.getType().toString();
      rule(5, field.getName() + " is a constant", modifiers.contains(Modifier.FINAL) && field.getInitializer() != null
          && Set.of("int", "long", "boolean", "char", "String", "int[]", "long[]", "char[]", "byte[]").contains(type));
    }
  }

  @Override public Void visitMethod(MethodTree tree, Void nothing) {
    String before = method;
    method = nameOf(trees.getElement(getCurrentPath()));
    calls.putIfAbsent(method, new TreeSet<>());
    if (tree.getModifiers().getFlags().contains(Modifier.PUBLIC)) {
      acts.add(method);
    }
    rule(11, method + " takes seven at most", tree.getParameters().size() <= 7);
    rule(11, method + " is short: " + lines(tree), lines(tree) <= MOST_LINES);
    rule(2, method + " is not generic and throws nothing", tree.getTypeParameters().isEmpty() && tree.getThrows().isEmpty());
    super.visitMethod(tree, nothing);
    method = before;
    return null;
  }

  private static String nameOf(Element element) {
    return element.getEnclosingElement().getSimpleName() + "." + element.getSimpleName();
  }

  @Override public Void visitVariable(VariableTree tree, Void nothing) {
    type(tree.getName() + "", trees.getTypeMirror(new TreePath(getCurrentPath(), tree.getType())));
    return super.visitVariable(tree, nothing);
  }

  /** Rule 3. */
  private void type(String what, TypeMirror type) {
    String name = type.toString();
    boolean number = Set.of("int", "long", "short", "byte", "char", "boolean").contains(name.replace("[]", ""));
    boolean own = name.replace("[]", "").startsWith("SoldYear");
    rule(3, what + " is of a type of the rule: " + name, number || own || name.equals("java.lang.String"));
    rule(3, what + " is of one dimension: " + name, !name.endsWith("[][]"));
  }

  @Override public Void visitMethodInvocation(MethodInvocationTree tree, Void nothing) {
    called(trees.getElement(new TreePath(getCurrentPath(), tree.getMethodSelect())));
    return super.visitMethodInvocation(tree, nothing);
  }

  private void called(Element target) {
    TypeElement owner = (TypeElement) target.getEnclosingElement();
    if (owner.getQualifiedName().toString().startsWith("SoldYear")) {
      calls.computeIfAbsent(method, m -> new TreeSet<>()).add(nameOf(target));
    } else {
      used.add(owner.getQualifiedName() + "." + target.getSimpleName());
    }
  }

  /** Rule 12: objects and arrays are made with the object that has them, and never by an act. */
  @Override public Void visitNewClass(NewClassTree tree, Void nothing) {
    rule(12, place(tree) + " makes an object in a constructor alone", isMadeWithAnother());
    rule(2, place(tree) + " makes no class without a name", tree.getClassBody() == null);
    return super.visitNewClass(tree, nothing);
  }

  @Override public Void visitNewArray(NewArrayTree tree, Void nothing) {
    rule(12, place(tree) + " makes a row in a constructor alone", isMadeWithAnother());
    return super.visitNewArray(tree, nothing);
  }

  private boolean isMadeWithAnother() {
    return method.isEmpty() || method.endsWith(".<init>");
  }

  /** Rule 6, 10: texts are neither joined by + nor compared by ==. */
  @Override public Void visitBinary(BinaryTree tree, Void nothing) {
    rule(10, place(tree) + " joins or compares no texts", !isText(tree.getLeftOperand()) && !isText(tree.getRightOperand()));
    return super.visitBinary(tree, nothing);
  }

  private boolean isText(ExpressionTree part) {
    TypeMirror type = trees.getTypeMirror(new TreePath(getCurrentPath(), part));
    return type != null && type.getKind() == TypeKind.DECLARED && type.toString().equals("java.lang.String");
  }

  /** Rule 4: texts that stand in the class. */
  @Override public Void visitLiteral(LiteralTree tree, Void nothing) {
    if (tree.getValue() instanceof String text) {
      rule(4, place(tree) + " has signs 1 to 127", text.chars().allMatch(c -> c >= 1 && c <= 127));
    }
    return super.visitLiteral(tree, nothing);
  }

  /** Rule 5: no row that is a constant is written to. */
  @Override public Void visitAssignment(AssignmentTree tree, Void nothing) {
    if (tree.getVariable() instanceof ArrayAccessTree row) {
      Element element = elementOf(row.getExpression());
      rule(5, place(tree) + " writes to no constant", element == null || element.getKind() != ElementKind.FIELD
          || !element.getModifiers().contains(Modifier.STATIC));
    }
    return super.visitAssignment(tree, nothing);
  }

  private Element elementOf(ExpressionTree part) {
    boolean named = part instanceof IdentifierTree || part instanceof MemberSelectTree;
    return named ? trees.getElement(new TreePath(getCurrentPath(), part)) : null;
  }
}
