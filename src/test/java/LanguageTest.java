import com.sun.source.tree.AssertTree;
import com.sun.source.tree.BinaryTree;
import com.sun.source.tree.ClassTree;
import com.sun.source.tree.CompilationUnitTree;
import com.sun.source.tree.DoWhileLoopTree;
import com.sun.source.tree.ExpressionTree;
import com.sun.source.tree.ImportTree;
import com.sun.source.tree.LambdaExpressionTree;
import com.sun.source.tree.MemberReferenceTree;
import com.sun.source.tree.MethodInvocationTree;
import com.sun.source.tree.MethodTree;
import com.sun.source.tree.NewArrayTree;
import com.sun.source.tree.NewClassTree;
import com.sun.source.tree.PrimitiveTypeTree;
import com.sun.source.tree.SynchronizedTree;
import com.sun.source.tree.ThrowTree;
import com.sun.source.tree.Tree;
import com.sun.source.tree.TryTree;
import com.sun.source.tree.VariableTree;
import com.sun.source.tree.WhileLoopTree;
import com.sun.source.util.JavacTask;
import com.sun.source.util.TreePathScanner;
import com.sun.source.util.Trees;
import java.nio.file.Files;
import java.nio.file.Path;
import java.util.ArrayList;
import java.util.HashMap;
import java.util.HashSet;
import java.util.LinkedHashSet;
import java.util.List;
import java.util.Map;
import java.util.Set;
import javax.lang.model.element.Element;
import javax.lang.model.element.ElementKind;
import javax.lang.model.element.ExecutableElement;
import javax.lang.model.element.Modifier;
import javax.lang.model.element.TypeElement;
import javax.lang.model.type.TypeKind;
import javax.tools.JavaCompiler;
import javax.tools.StandardJavaFileManager;
import javax.tools.ToolProvider;

/**
 * The rules of LANGUAGE.md that can be read off the program's source. Where the program needs less
 * than a rule allows (it throws nothing and uses no doubles), the test asks for that.
 */
public final class LanguageTest {
  private static final Path SOURCE = Path.of("src/main/java/FloorShop.java");
  private static final int MOST_PARAMETERS = 7;
  private static final int MOST_LINES = 60;
  private static final int MOST_CLASSES = 12;
  private static final int MOST_FIELDS = 20;
  private static final int DEEPEST = 8;
  private static final Set<String> LIBRARY = Set.of("java.util.Arrays.fill", "java.lang.System.arraycopy",
      "java.lang.Math.min", "java.lang.Math.max", "java.lang.Integer.bitCount", "java.lang.Integer.signum",
      "java.lang.Long.signum", "java.lang.Object.<init>");
  private static final Set<String> CONSTANTS = Set.of("int", "long", "boolean", "char", "java.lang.String");
  private static final Set<String> ROWS = Set.of("int[]", "long[]", "char[]", "byte[]");

  private static int wrong = 0;

  public static void main(String[] args) throws Exception {
    JavaCompiler compiler = ToolProvider.getSystemJavaCompiler();
    try (StandardJavaFileManager files = compiler.getStandardFileManager(null, null, null)) {
      JavacTask task = (JavacTask) compiler.getTask(null, files, null, List.of("--release", "17", "-proc:none"), null,
          files.getJavaFileObjects(SOURCE));
      CompilationUnitTree unit = task.parse().iterator().next();
      task.analyze();
      Reader reader = new Reader(unit, Trees.instance(task));
      reader.scan(unit, null);
      judge(unit, reader);
    }
    System.out.println(wrong == 0 ? "all rules are kept" : wrong + " rules are not kept");
    if (wrong != 0) {
      System.exit(1);
    }
  }

  private static void due(int rule, String what, boolean holds) {
    if (!holds) {
      wrong++;
      System.out.println("rule " + rule + ": " + what);
    }
  }

  private static void judge(CompilationUnitTree unit, Reader reader) throws Exception {
    due(1, "there is a package line", unit.getPackageName() == null);
    due(1, "there is not just one class outside", unit.getTypeDecls().size() == 1);
    due(11, reader.classes.size() + " classes", reader.classes.size() <= MOST_CLASSES);
    for (ImportTree line : unit.getImports()) {
      due(4, line.toString(), !line.isStatic() && line.getQualifiedIdentifier().toString().equals("java.util.Arrays"));
    }
    due(3, "a character beyond 255", Files.readString(SOURCE).chars().allMatch(c -> c <= 255));
    Set<String> open = new HashSet<>();
    Set<String> hidden = new HashSet<>();
    for (ExecutableElement method : reader.calls.keySet()) {
      boolean isPublic = method.getModifiers().contains(Modifier.PUBLIC);
      (isPublic ? open : hidden).add(method.getSimpleName().toString());
    }
    open.remove("<init>");
    hidden.retainAll(open);
    due(1, "methods inside with a name of the face: " + hidden, hidden.isEmpty());
    for (ExecutableElement method : reader.calls.keySet()) {
      int depth = depth(method, reader.calls, new ArrayList<>());
      due(11, method + " goes " + depth + " calls deep", depth <= DEEPEST);
    }
  }

  /** How many calls stand open at once, the first one counted. */
  private static int depth(ExecutableElement method, Map<ExecutableElement, Set<ExecutableElement>> calls,
      List<ExecutableElement> open) {
    if (open.contains(method)) {
      due(8, method + " calls itself", false);
      return 0;
    }
    open.add(method);
    int deepest = 0;
    for (ExecutableElement next : calls.getOrDefault(method, Set.of())) {
      deepest = Math.max(deepest, depth(next, calls, open));
    }
    open.remove(method);
    return deepest + 1;
  }

  private static final class Reader extends TreePathScanner<Void, Void> {
    final CompilationUnitTree unit;
    final Trees trees;
    final List<TypeElement> classes = new ArrayList<>();
    final Map<ExecutableElement, Set<ExecutableElement>> calls = new HashMap<>();
    ExecutableElement within = null;

    Reader(CompilationUnitTree unit, Trees trees) {
      this.unit = unit;
      this.trees = trees;
    }

    Element here() {
      return trees.getElement(getCurrentPath());
    }

    long line(long position) {
      return unit.getLineMap().getLineNumber(position);
    }

    void never(int rule, Tree tree) {
      due(rule, tree.getKind() + " in line " + line(trees.getSourcePositions().getStartPosition(unit, tree)), false);
    }

    Element outermost(Element element) {
      Element at = element;
      while (at.getEnclosingElement() != null && at.getEnclosingElement().getKind() != ElementKind.PACKAGE) {
        at = at.getEnclosingElement();
      }
      return at;
    }

    @Override
    public Void visitClass(ClassTree tree, Void nothing) {
      TypeElement type = (TypeElement) here();
      boolean inside = type.getEnclosingElement().getKind() == ElementKind.CLASS;
      due(2, type + " is not static", !inside || type.getModifiers().contains(Modifier.STATIC));
      due(1, type + " can be seen from outside", !inside || !type.getModifiers().contains(Modifier.PUBLIC)
          && !type.getModifiers().contains(Modifier.PROTECTED));
      classes.add(type);
      long fields = type.getEnclosedElements().stream()
          .filter(e -> e.getKind() == ElementKind.FIELD && !e.getModifiers().contains(Modifier.STATIC)).count();
      due(11, type + " has " + fields + " fields", fields <= MOST_FIELDS);
      due(5, type + " has a static block",
          tree.getMembers().stream().noneMatch(member -> member.getKind() == Tree.Kind.BLOCK));
      return super.visitClass(tree, nothing);
    }

    @Override
    public Void visitMethod(MethodTree tree, Void nothing) {
      ExecutableElement before = within;
      within = (ExecutableElement) here();
      calls.computeIfAbsent(within, key -> new LinkedHashSet<>());
      due(11, within + " takes too many", tree.getParameters().size() <= MOST_PARAMETERS);
      long start = trees.getSourcePositions().getStartPosition(unit, tree);
      long end = trees.getSourcePositions().getEndPosition(unit, tree);
      due(11, within + " is too long", end < 0 || line(end) - line(start) < MOST_LINES);
      if (within.getEnclosingElement().getEnclosingElement().getKind() == ElementKind.PACKAGE) {
        due(1, within + " is neither public nor private", within.getModifiers().contains(Modifier.PUBLIC)
            || within.getModifiers().contains(Modifier.PRIVATE));
      }
      super.visitMethod(tree, nothing);
      within = before;
      return null;
    }

    @Override
    public Void visitVariable(VariableTree tree, Void nothing) {
      Element field = here();
      if (field.getKind() == ElementKind.FIELD) {
        judgeField(field, tree);
      }
      return super.visitVariable(tree, nothing);
    }

    void judgeField(Element field, VariableTree tree) {
      boolean isFace = field.getSimpleName().contentEquals("NONE");
      due(1, field + " is not private", isFace || field.getModifiers().contains(Modifier.PRIVATE));
      if (!field.getModifiers().contains(Modifier.STATIC)) {
        return;
      }
      String type = field.asType().toString();
      boolean row = ROWS.contains(type) && tree.getInitializer() instanceof NewArrayTree list
          && list.getInitializers() != null;
      due(5, field + " is no constant", field.getModifiers().contains(Modifier.FINAL)
          && (row || CONSTANTS.contains(type) && tree.getInitializer() != null));
    }

    @Override
    public Void visitMethodInvocation(MethodInvocationTree tree, Void nothing) {
      call(here());
      return super.visitMethodInvocation(tree, nothing);
    }

    @Override
    public Void visitNewClass(NewClassTree tree, Void nothing) {
      call(here());
      due(2, "an anonymous class", tree.getClassBody() == null);
      return super.visitNewClass(tree, nothing);
    }

    void call(Element called) {
      ExecutableElement target = (ExecutableElement) called;
      TypeElement type = (TypeElement) target.getEnclosingElement();
      if (outermost(type).getSimpleName().contentEquals("FloorShop")) {
        if (within != null) {
          calls.get(within).add(target);
        }
        return;
      }
      String name = type.getQualifiedName() + "." + target.getSimpleName();
      due(4, name, LIBRARY.contains(name));
    }

    @Override
    public Void visitPrimitiveType(PrimitiveTypeTree tree, Void nothing) {
      if (tree.getPrimitiveTypeKind() == TypeKind.DOUBLE || tree.getPrimitiveTypeKind() == TypeKind.FLOAT) {
        never(3, tree);
      }
      return super.visitPrimitiveType(tree, nothing);
    }

    @Override
    public Void visitBinary(BinaryTree tree, Void nothing) {
      if (tree.getKind() == Tree.Kind.DIVIDE || tree.getKind() == Tree.Kind.REMAINDER) {
        divisor(tree.getRightOperand());
      }
      return super.visitBinary(tree, nothing);
    }

    void divisor(ExpressionTree by) {
      due(7, "divided by " + by, by.getKind() == Tree.Kind.INT_LITERAL || by.toString().equals("DIRECTIONS")
          || by.toString().equals("AXES"));
    }

    @Override
    public Void visitLambdaExpression(LambdaExpressionTree tree, Void nothing) {
      never(2, tree);
      return super.visitLambdaExpression(tree, nothing);
    }

    @Override
    public Void visitMemberReference(MemberReferenceTree tree, Void nothing) {
      never(2, tree);
      return super.visitMemberReference(tree, nothing);
    }

    @Override
    public Void visitThrow(ThrowTree tree, Void nothing) {
      never(6, tree);
      return super.visitThrow(tree, nothing);
    }

    @Override
    public Void visitTry(TryTree tree, Void nothing) {
      never(6, tree);
      return super.visitTry(tree, nothing);
    }

    @Override
    public Void visitSynchronized(SynchronizedTree tree, Void nothing) {
      never(6, tree);
      return super.visitSynchronized(tree, nothing);
    }

    @Override
    public Void visitAssert(AssertTree tree, Void nothing) {
      never(6, tree);
      return super.visitAssert(tree, nothing);
    }

    @Override
    public Void visitWhileLoop(WhileLoopTree tree, Void nothing) {
      never(9, tree);
      return super.visitWhileLoop(tree, nothing);
    }

    @Override
    public Void visitDoWhileLoop(DoWhileLoopTree tree, Void nothing) {
      never(9, tree);
      return super.visitDoWhileLoop(tree, nothing);
    }
  }
}
