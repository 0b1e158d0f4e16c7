import com.sun.source.tree.*;
import com.sun.source.util.*;
import java.io.File;
import java.lang.reflect.Constructor;
import java.lang.reflect.Field;
import java.lang.reflect.Method;
import java.lang.reflect.Modifier;
import java.util.*;
import javax.lang.model.element.Element;
import javax.lang.model.element.ElementKind;
import javax.tools.JavaCompiler;
import javax.tools.StandardJavaFileManager;
import javax.tools.ToolProvider;

/** The rules of LANGUAGE.md that a look at the source can tell, and the document's face. */
public final class LanguageTest extends TreePathScanner<Void, Void> {
  private static final String FACE = "int stone(int,int);int hand(int);int read(int,int,int,int,int,int);"
      + "int forget(int,int,int,int);int sign(int,int,int,int);int feed(int,long);int formula();"
      + "int texts(int);int text(int,int,int);int ways(int,int,int);int way(int,int,int,int);"
      + "int carried(int,int,int,int);int fits(int,int);int edge(int,int,int,int);int tolerance(int);"
      + "int room(int,int);int best(int,int);int join(int,int);int part(int);int joined(int,int);"
      + "int whole(int,int,int);int years(int,int,int);int bound(int,int,int);int loose();"
      + "int span(int,int);int clash();int person(long,long,int);int one(int,int);int group(int);"
      + "int father(int);int print(int,int,int);int printed(int,int,int,int);int back(int,int,int);"
      + "int count(int);int tray(int,int);int cell(int,int,int);int lay(int,int,int,int,int);"
      + "int taken(int,int,int,int,int)";

  private static final Set<String> LIBRARY = Set.of(
      "java.lang.Object()", "java.util.Arrays.fill", "java.lang.System.arraycopy",
      "java.lang.Math.max", "java.lang.Math.min", "java.lang.Math.abs",
      "java.lang.Integer.bitCount", "java.lang.Long.bitCount");

  private static final int CALLS_DEEP = 8, METHOD_LINES = 60, PARAMETERS = 7, CLASSES = 12, FIELDS = 20;

  private final Trees trees;
  private final CompilationUnitTree unit;
  private final Set<String> faceNames = new HashSet<>();
  private final Map<Element, Set<Element>> calls = new HashMap<>();
  private int classes;

  private LanguageTest(Trees trees, CompilationUnitTree unit) {
    this.trees = trees;
    this.unit = unit;
    for (Method m : InscribedStones.class.getDeclaredMethods()) {
      if (Modifier.isPublic(m.getModifiers())) {
        faceNames.add(m.getName());
      }
    }
  }

  public static void main(String[] args) throws Exception {
    face();
    JavaCompiler compiler = ToolProvider.getSystemJavaCompiler();
    try (StandardJavaFileManager files = compiler.getStandardFileManager(null, null, null)) {
      JavacTask task = (JavacTask) compiler.getTask(
          null, files, null, List.of("-proc:none"), null, files.getJavaFileObjects(new File(args[0])));
      CompilationUnitTree unit = task.parse().iterator().next();
      task.analyze();
      LanguageTest test = new LanguageTest(Trees.instance(task), unit);
      test.scan(unit, null);
      test.depths();
    }
    Due.end();
  }

  private static void wrong(String what) {
    Due.due(what, 1, 0);
  }

  private void wrongAt(Tree tree, String what) {
    long at = trees.getSourcePositions().getStartPosition(unit, tree);
    wrong("line " + unit.getLineMap().getLineNumber(at) + ": " + what);
  }

  private static void face() {
    Class<?> c = InscribedStones.class;
    Due.due("public and final", c.getModifiers(), Modifier.PUBLIC | Modifier.FINAL);
    Set<String> due = new TreeSet<>(List.of(FACE.split(";")));
    Set<String> got = new TreeSet<>();
    for (Method m : c.getDeclaredMethods()) {
      if (!Modifier.isPrivate(m.getModifiers())) {
        StringBuilder types = new StringBuilder();
        for (Class<?> type : m.getParameterTypes()) {
          types.append(types.length() == 0 ? "" : ",").append(type.getName());
        }
        got.add(m.getReturnType().getName() + " " + m.getName() + "(" + types + ")");
        Due.due(m.getName() + " is public alone", m.getModifiers(), Modifier.PUBLIC);
      }
    }
    Due.same("the face", got.toString(), due.toString());
    Set<String> constants = new TreeSet<>();
    for (Field f : c.getDeclaredFields()) {
      if (!Modifier.isPrivate(f.getModifiers())) {
        Due.due(f.getName(), f.getModifiers(), Modifier.PUBLIC | Modifier.STATIC | Modifier.FINAL);
        constants.add(f.getType() + " " + f.getName());
      }
    }
    Due.same("the constants", constants.toString(), "[int BAD, int FULL, int NONE, int STATE]");
    Due.due("NONE", InscribedStones.NONE, -1);
    Due.due("BAD", InscribedStones.BAD, -2);
    Due.due("STATE", InscribedStones.STATE, -3);
    Due.due("FULL", InscribedStones.FULL, -4);
    Constructor<?>[] made = c.getDeclaredConstructors();
    Due.due("one constructor", made.length, 1);
    Due.due("it is public", made[0].getModifiers(), Modifier.PUBLIC);
    Due.due("it takes nothing", made[0].getParameterCount(), 0);
  }

  @Override
  public Void visitCompilationUnit(CompilationUnitTree tree, Void none) {
    if (tree.getPackageName() != null || tree.getTypeDecls().size() != 1) {
      wrong("a package, or more than one class beside another");
    }
    for (ImportTree t : tree.getImports()) {
      if (!t.toString().trim().equals("import java.util.Arrays;")) {
        wrongAt(t, "import");
      }
    }
    super.visitCompilationUnit(tree, none);
    if (classes > CLASSES) {
      wrong(classes + " classes");
    }
    return null;
  }

  @Override
  public Void visitClass(ClassTree tree, Void none) {
    classes++;
    Set<javax.lang.model.element.Modifier> flags = tree.getModifiers().getFlags();
    boolean outer = getCurrentPath().getParentPath().getLeaf() == unit;
    if (tree.getKind() != Tree.Kind.CLASS || tree.getSimpleName().length() == 0) {
      wrongAt(tree, "not a plain class");
    }
    if (!outer && !flags.contains(javax.lang.model.element.Modifier.STATIC)) {
      wrongAt(tree, "a class inside that isn't static");
    }
    int fields = 0;
    for (Tree member : tree.getMembers()) {
      if (member instanceof BlockTree) {
        wrongAt(member, "an initialiser block");
      }
      if (member instanceof VariableTree) {
        Set<javax.lang.model.element.Modifier> own = ((VariableTree) member).getModifiers().getFlags();
        boolean isStatic = own.contains(javax.lang.model.element.Modifier.STATIC);
        fields += isStatic ? 0 : 1;
        if (isStatic && !own.contains(javax.lang.model.element.Modifier.FINAL)) {
          wrongAt(member, "a static field that isn't final");
        }
      }
    }
    if (fields > FIELDS) {
      wrongAt(tree, fields + " fields");
    }
    return super.visitClass(tree, none);
  }

  @Override
  public Void visitMethod(MethodTree tree, Void none) {
    Element own = trees.getElement(getCurrentPath());
    calls.computeIfAbsent(own, k -> new HashSet<>());
    boolean open = own.getModifiers().contains(javax.lang.model.element.Modifier.PUBLIC);
    String name = tree.getName().toString();
    if (!open && faceNames.contains(name)) {
      wrongAt(tree, name + " bears the name of a public method");
    }
    if (name.equals("equals") || name.equals("hashCode") || name.equals("toString")) {
      wrongAt(tree, name);
    }
    if (tree.getParameters().size() > PARAMETERS) {
      wrongAt(tree, "parameters");
    }
    SourcePositions places = trees.getSourcePositions();
    long from = unit.getLineMap().getLineNumber(places.getStartPosition(unit, tree));
    long to = unit.getLineMap().getLineNumber(places.getEndPosition(unit, tree));
    if (to - from + 1 > METHOD_LINES) {
      wrongAt(tree, "a method of " + (to - from + 1) + " lines");
    }
    return super.visitMethod(tree, none);
  }

  private void called(Tree tree) {
    Element element = trees.getElement(getCurrentPath());
    TreePath path = getCurrentPath();
    while (path != null && !(path.getLeaf() instanceof MethodTree)) {
      path = path.getParentPath();
    }
    if (path != null) {
      calls.computeIfAbsent(trees.getElement(path), k -> new HashSet<>()).add(element);
    }
    String type = element.getEnclosingElement().toString();
    if (type.startsWith("java")) {
      boolean made = element.getKind() == ElementKind.CONSTRUCTOR;
      String name = made ? type + "()" : type + "." + element.getSimpleName();
      if (!LIBRARY.contains(name)) {
        wrongAt(tree, "the library's " + name);
      }
    }
  }

  @Override
  public Void visitMethodInvocation(MethodInvocationTree tree, Void none) {
    called(tree);
    return super.visitMethodInvocation(tree, none);
  }

  @Override
  public Void visitNewClass(NewClassTree tree, Void none) {
    called(tree);
    if (tree.getClassBody() != null) {
      wrongAt(tree, "an anonymous class");
    }
    return super.visitNewClass(tree, none);
  }

  @Override
  public Void visitThrow(ThrowTree tree, Void none) {
    wrongAt(tree, "throw");
    return null;
  }

  @Override
  public Void visitTry(TryTree tree, Void none) {
    wrongAt(tree, "try");
    return null;
  }

  @Override
  public Void visitSynchronized(SynchronizedTree tree, Void none) {
    wrongAt(tree, "synchronized");
    return null;
  }

  @Override
  public Void visitAssert(AssertTree tree, Void none) {
    wrongAt(tree, "assert");
    return null;
  }

  @Override
  public Void visitLambdaExpression(LambdaExpressionTree tree, Void none) {
    wrongAt(tree, "lambda");
    return null;
  }

  @Override
  public Void visitMemberReference(MemberReferenceTree tree, Void none) {
    wrongAt(tree, "method reference");
    return null;
  }

  @Override
  public Void visitSwitchExpression(SwitchExpressionTree tree, Void none) {
    wrongAt(tree, "switch as an expression");
    return null;
  }

  @Override
  public Void visitLiteral(LiteralTree tree, Void none) {
    if (tree.getKind() == Tree.Kind.STRING_LITERAL) {
      wrongAt(tree, "a text, which no call needs");
    }
    return null;
  }

  @Override
  public Void visitBinary(BinaryTree tree, Void none) {
    boolean divides = tree.getKind() == Tree.Kind.DIVIDE || tree.getKind() == Tree.Kind.REMAINDER;
    String by = tree.getRightOperand().toString();
    if (divides && !by.equals("2") && !by.equals("LETTER_BITS") && !by.equals("NAME_BASE")) {
      wrongAt(tree, "a division by " + by);
    }
    return super.visitBinary(tree, none);
  }

  private void depths() {
    for (Element method : calls.keySet()) {
      int depth = depthOf(method, new ArrayDeque<>());
      if (depth > CALLS_DEEP) {
        wrong(method.getEnclosingElement() + "." + method + " calls " + depth + " deep");
      }
    }
  }

  /** How many calls stand open at most, this one and the library's counted; recursion is none here. */
  private int depthOf(Element method, Deque<Element> open) {
    if (open.contains(method)) {
      wrong(method + " calls itself");
      return 0;
    }
    open.push(method);
    int deepest = 0;
    for (Element next : calls.getOrDefault(method, Set.of())) {
      deepest = Math.max(deepest, depthOf(next, open));
    }
    open.pop();
    return deepest + 1;
  }
}
