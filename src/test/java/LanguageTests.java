import com.sun.source.tree.*;
import com.sun.source.util.JavacTask;
import com.sun.source.util.TreePath;
import com.sun.source.util.TreePathScanner;
import com.sun.source.util.Trees;
import java.nio.file.Path;
import java.util.ArrayList;
import java.util.EnumSet;
import java.util.HashMap;
import java.util.HashSet;
import java.util.List;
import java.util.Map;
import java.util.Set;
import java.util.TreeSet;
import javax.lang.model.element.Element;
import javax.lang.model.element.ElementKind;
import javax.lang.model.element.ExecutableElement;
import javax.lang.model.element.Modifier;
import javax.lang.model.element.TypeElement;
import javax.lang.model.element.VariableElement;
import javax.tools.JavaCompiler;
import javax.tools.StandardJavaFileManager;
import javax.tools.ToolProvider;

/** The rules of LANGUAGE.md that can be seen from the class's text, as the compiler reads it; by their numbers. */
public final class LanguageTests {
  private static final Path FILE = Path.of("src/main/java/HalfOrNine.java");
  private static final Set<String> TYPES = Set.of("void", "int", "long", "boolean", "int[]", "long[]");
  private static final Set<String> LIBRARY = Set.of("Math.max", "Math.min", "Object.<init>");
  /** Of the language's trees those that the rules leave out, or that this class does without. */
  private static final Set<Tree.Kind> OUT = EnumSet.of(Tree.Kind.THROW, Tree.Kind.TRY, Tree.Kind.CATCH,
      Tree.Kind.SYNCHRONIZED, Tree.Kind.ASSERT, Tree.Kind.INSTANCE_OF, Tree.Kind.LAMBDA_EXPRESSION,
      Tree.Kind.MEMBER_REFERENCE, Tree.Kind.IMPORT, Tree.Kind.PACKAGE, Tree.Kind.WHILE_LOOP, Tree.Kind.DO_WHILE_LOOP,
      Tree.Kind.ANNOTATION, Tree.Kind.STRING_LITERAL, Tree.Kind.SWITCH_EXPRESSION, Tree.Kind.ENHANCED_FOR_LOOP);

  private static int wrong = 0;
  private static int looked = 0;

  private static void due(boolean so, int rule, String what) {
    looked++;
    if (!so) {
      wrong++;
      System.out.println("rule " + rule + ": " + what);
    }
  }

  /** Which methods each method calls, by their owners and names. */
  private static final Map<String, Set<String>> calls = new HashMap<>();

  private static final class Reader extends TreePathScanner<Void, Void> {
    private final Trees trees;
    private final CompilationUnitTree unit;
    private final Set<String> own = new HashSet<>();

    Reader(Trees trees, CompilationUnitTree unit) {
      this.trees = trees;
      this.unit = unit;
    }

    private long line(Tree t) {
      return unit.getLineMap().getLineNumber(trees.getSourcePositions().getStartPosition(unit, t));
    }

    private long lastLine(Tree t) {
      return unit.getLineMap().getLineNumber(trees.getSourcePositions().getEndPosition(unit, t));
    }

    private String at(Tree t) {
      return "line " + line(t) + ": " + t.toString().replaceAll("\\s+", " ");
    }

    private static String named(Element e) {
      return e.getEnclosingElement().getSimpleName() + "." + e.getSimpleName();
    }

    private <T extends Tree> T around(Class<T> kind) {
      for (TreePath p = getCurrentPath(); p != null; p = p.getParentPath()) {
        if (kind.isInstance(p.getLeaf())) return kind.cast(p.getLeaf());
      }
      return null;
    }

    @Override
    public Void scan(Tree t, Void v) {
      if (t != null) due(!OUT.contains(t.getKind()), 6, t.getKind() + " in " + at(t));
      return super.scan(t, v);
    }

    @Override
    public Void visitClass(ClassTree c, Void v) {
      TypeElement e = (TypeElement) trees.getElement(getCurrentPath());
      boolean inside = getCurrentPath().getParentPath().getLeaf() instanceof ClassTree;
      own.add(e.getQualifiedName().toString());
      if (inside) due(e.getModifiers().contains(Modifier.STATIC), 2, "no static class " + e);
      due(inside || e.getModifiers().containsAll(Set.of(Modifier.PUBLIC, Modifier.FINAL)), 1, "the face's class " + e);
      due(getCurrentPath().getParentPath().getLeaf().getKind() != Tree.Kind.METHOD, 2, "a local class " + e);
      int fields = 0;
      for (Tree member : c.getMembers()) {
        due(member.getKind() != Tree.Kind.BLOCK, 5, "an initialiser block of " + e);
        if (member instanceof VariableTree f && !f.getModifiers().getFlags().contains(Modifier.STATIC)) fields++;
      }
      due(fields <= 20, 11, fields + " fields of " + e);
      return super.visitClass(c, v);
    }

    @Override
    public Void visitMethod(MethodTree m, Void v) {
      due(m.getParameters().size() <= 7, 11, m.getParameters().size() + " parameters of " + m.getName());
      due(lastLine(m) - line(m) < 60, 11, m.getName() + " is long");
      calls.put(named(trees.getElement(getCurrentPath())), new TreeSet<>());
      return super.visitMethod(m, v);
    }

    @Override
    public Void visitVariable(VariableTree f, Void v) {
      VariableElement e = (VariableElement) trees.getElement(getCurrentPath());
      isOfType(e.asType().toString(), f);
      if (e.getKind() == ElementKind.FIELD && e.getModifiers().contains(Modifier.STATIC)) {
        boolean constant = e.getConstantValue() != null;
        boolean written = f.getInitializer() != null && f.getInitializer().getKind() == Tree.Kind.NEW_ARRAY;
        due(e.getModifiers().contains(Modifier.FINAL) && (constant || written), 5, "a static field in " + at(f));
      }
      return super.visitVariable(f, v);
    }

    private void isOfType(String type, Tree t) {
      String bare = type.replace("[]", "");
      due(TYPES.contains(type) || own.contains(bare) || bare.startsWith("HalfOrNine"), 3, type + " in " + at(t));
    }

    @Override
    public Void visitMethodInvocation(MethodInvocationTree call, Void v) {
      ExecutableElement e = (ExecutableElement) trees.getElement(getCurrentPath());
      boolean ours = e.getEnclosingElement().toString().startsWith("HalfOrNine");
      due(ours || LIBRARY.contains(named(e)), 4, "the library's " + named(e) + " in " + at(call));
      MethodTree caller = around(MethodTree.class);
      if (caller != null && !named(e).equals("Object.<init>")) {
        calls.get(named(trees.getElement(pathOf(caller)))).add(named(e));
      }
      return super.visitMethodInvocation(call, v);
    }

    private TreePath pathOf(Tree t) {
      TreePath p = getCurrentPath();
      while (p.getLeaf() != t) p = p.getParentPath();
      return p;
    }

    @Override
    public Void visitNewClass(NewClassTree made, Void v) {
      isOfType(made.getIdentifier().toString().replaceFirst("^", "HalfOrNine."), made);
      due(made.getClassBody() == null, 2, "an anonymous class in " + at(made));
      isMadeAtFirst(made);
      return super.visitNewClass(made, v);
    }

    @Override
    public Void visitNewArray(NewArrayTree made, Void v) {
      isMadeAtFirst(made);
      return super.visitNewArray(made, v);
    }

    /** README.md: all objects and arrays are made in constructors (and by the fields' initialisers). */
    private void isMadeAtFirst(Tree made) {
      MethodTree m = around(MethodTree.class);
      due(m == null || m.getName().contentEquals("<init>"), 12, "a call makes an object in " + at(made));
    }

    @Override
    public Void visitTypeCast(TypeCastTree cast, Void v) {
      due(TYPES.contains(cast.getType().toString()), 6, "a cast in " + at(cast));
      return super.visitTypeCast(cast, v);
    }

    /** All conditions that stand around or ahead of this place, and the first parts of loops, as one text. */
    private String guards() {
      StringBuilder s = new StringBuilder();
      for (TreePath p = getCurrentPath(); p != null && !(p.getLeaf() instanceof MethodTree); p = p.getParentPath()) {
        Tree t = p.getLeaf();
        if (t instanceof IfTree i) s.append(i.getCondition()).append(' ');
        if (t instanceof ConditionalExpressionTree c) s.append(c.getCondition()).append(' ');
        if (t instanceof BinaryTree b && b.getKind() == Tree.Kind.CONDITIONAL_AND) s.append(b.getLeftOperand()).append(' ');
        if (t instanceof ForLoopTree f) s.append(f.getInitializer()).append(f.getCondition()).append(' ');
      }
      return s.toString();
    }

    @Override
    public Void visitArrayAccess(ArrayAccessTree a, Void v) {
      String guards = guards();
      String i = a.getIndex().toString();
      due(guards.contains(i + " < " + a.getExpression() + ".length"), 7, "no bound of the index in " + at(a));
      due(guards.contains(i + " >= 0") || guards.contains("int " + i + " = 0"), 7, "an index below 0 in " + at(a));
      return super.visitArrayAccess(a, v);
    }

    @Override
    public Void visitBinary(BinaryTree b, Void v) {
      if (b.getKind() == Tree.Kind.DIVIDE || b.getKind() == Tree.Kind.REMAINDER) {
        String by = b.getRightOperand().toString();
        boolean told = by.matches("[1-9]\\d*");
        due(told || guards().contains(by + " > 0") || guards().contains(by + " > 1"), 7, "a divisor in " + at(b));
      }
      return super.visitBinary(b, v);
    }

    /** A counter that the loop's own line moves, against a bound. */
    @Override
    public Void visitForLoop(ForLoopTree loop, Void v) {
      boolean told = loop.getInitializer().size() == 1 && loop.getUpdate().size() == 1 && loop.getCondition() != null;
      due(told, 9, "a loop without an end in " + at(loop));
      if (told && loop.getInitializer().get(0) instanceof VariableTree counter) {
        String name = counter.getName().toString();
        String update = loop.getUpdate().get(0).toString().replace(";", "");
        due(update.equals(name + "++") || update.equals(name + "--"), 9, "the counter in " + at(loop));
        due(loop.getCondition().toString().matches("(?s).*\\b" + name + "\\b.* (<|<=|>|>=) .*"), 9, "no bound in " + at(loop));
        String changed = "(?s).*(?<![.\\w])" + name + " ?(=|\\+=|-=|\\+\\+|--)(?!=).*";
        due(!loop.getStatement().toString().matches(changed), 9, "the counter in " + at(loop));
      }
      return super.visitForLoop(loop, v);
    }

    @Override
    public Void visitAssignment(AssignmentTree a, Void v) {
      if (a.getVariable() instanceof ArrayAccessTree to) {
        due(!to.getExpression().toString().equals("MOST"), 5, "a constant row is changed in " + at(a));
      }
      return super.visitAssignment(a, v);
    }
  }

  /** The deepest chain of calls that a method begins; the library's count too. A method on its own way is recursion. */
  private static int depth(String method, List<String> way) {
    due(!way.contains(method), 8, "recursion: " + way + " " + method);
    if (way.contains(method)) return 1000;
    way.add(method);
    int most = 0;
    for (String called : calls.getOrDefault(method, Set.of())) most = Math.max(most, depth(called, way));
    way.remove(method);
    return 1 + most;
  }

  public static void main(String[] args) throws Exception {
    JavaCompiler compiler = ToolProvider.getSystemJavaCompiler();
    try (StandardJavaFileManager files = compiler.getStandardFileManager(null, null, null)) {
      JavacTask task = (JavacTask) compiler.getTask(null, files, null, List.of("-proc:none"), null,
          files.getJavaFileObjects(FILE));
      List<CompilationUnitTree> units = new ArrayList<>();
      for (CompilationUnitTree unit : task.parse()) units.add(unit);
      task.analyze();
      due(units.size() == 1 && units.get(0).getTypeDecls().size() == 1, 1, "more than one class");
      due(units.get(0).getPackageName() == null, 1, "a package");
      Reader reader = new Reader(Trees.instance(task), units.get(0));
      reader.scan(units.get(0), null);
      due(reader.own.size() <= 12, 11, reader.own.size() + " classes");
    }
    for (String method : new TreeSet<>(calls.keySet())) {
      int depth = depth(method, new ArrayList<>());
      due(depth <= 8, 11, method + " goes " + depth + " deep");
    }
    System.out.println(wrong == 0 ? looked + " places keep the rules" : wrong + " wrong");
    if (wrong != 0) System.exit(1);
  }
}
