import com.sun.source.tree.BinaryTree;
import com.sun.source.tree.ClassTree;
import com.sun.source.tree.CompilationUnitTree;
import com.sun.source.tree.DoWhileLoopTree;
import com.sun.source.tree.ExpressionTree;
import com.sun.source.tree.ForLoopTree;
import com.sun.source.tree.MethodInvocationTree;
import com.sun.source.tree.MethodTree;
import com.sun.source.tree.NewArrayTree;
import com.sun.source.tree.NewClassTree;
import com.sun.source.tree.Tree;
import com.sun.source.tree.VariableTree;
import com.sun.source.tree.WhileLoopTree;
import com.sun.source.util.JavacTask;
import com.sun.source.util.TreePathScanner;
import com.sun.source.util.TreeScanner;
import com.sun.source.util.Trees;
import java.io.IOException;
import java.nio.file.Path;
import java.util.ArrayDeque;
import java.util.Deque;
import java.util.EnumSet;
import java.util.HashMap;
import java.util.List;
import java.util.Map;
import java.util.Set;
import java.util.TreeSet;
import javax.lang.model.element.Element;
import javax.lang.model.element.ElementKind;
import javax.lang.model.element.ExecutableElement;
import javax.lang.model.element.Modifier;
import javax.lang.model.type.ArrayType;
import javax.lang.model.type.TypeKind;
import javax.lang.model.type.TypeMirror;
import javax.tools.JavaCompiler;
import javax.tools.StandardJavaFileManager;
import javax.tools.ToolProvider;

/**
 * The rules of LANGUAGE.md that the source's syntax tree shows: types, library, who calls whom,
 * where objects are made, divisors and loops. It is stricter than they are where the program does
 * with less: no recursion, no objects made outside constructors. It runs in the project's folder.
 */
public final class TreeRulesTest extends TreePathScanner<Void, Void> {
  private static final Path SOURCE = Path.of("src/main/java/FieldsByDots.java");
  private static final int DEEPEST = 8;
  private static final int MOST_FIELDS = 20;
  private static final Set<Tree.Kind> FORBIDDEN = EnumSet.of(Tree.Kind.LAMBDA_EXPRESSION,
      Tree.Kind.MEMBER_REFERENCE, Tree.Kind.THROW, Tree.Kind.TRY, Tree.Kind.CATCH,
      Tree.Kind.SYNCHRONIZED, Tree.Kind.ASSERT, Tree.Kind.ANNOTATION, Tree.Kind.TYPE_CAST,
      Tree.Kind.INSTANCE_OF, Tree.Kind.SWITCH_EXPRESSION, Tree.Kind.IMPORT, Tree.Kind.PACKAGE);
  private static final Set<TypeKind> NUMBERS = EnumSet.of(TypeKind.INT, TypeKind.LONG,
      TypeKind.SHORT, TypeKind.BYTE, TypeKind.CHAR, TypeKind.BOOLEAN);
  private static final Set<String> LIBRARY = Set.of("java.lang.Math", "java.lang.Integer",
      "java.lang.Long");
  private static final Set<Tree.Kind> COMPARISONS = EnumSet.of(Tree.Kind.LESS_THAN,
      Tree.Kind.LESS_THAN_EQUAL, Tree.Kind.GREATER_THAN, Tree.Kind.GREATER_THAN_EQUAL);
  private static final Set<Tree.Kind> TESTS = EnumSet.of(Tree.Kind.EQUAL_TO,
      Tree.Kind.NOT_EQUAL_TO, Tree.Kind.GREATER_THAN);
  private static final Due D = new Due("TreeRulesTest");

  private final Trees trees;
  private final Map<String, Set<String>> calls = new HashMap<>();
  private final Deque<MethodTree> open = new ArrayDeque<>();

  private TreeRulesTest(Trees trees) {
    this.trees = trees;
  }

  public static void main(String[] args) throws IOException {
    JavaCompiler compiler = ToolProvider.getSystemJavaCompiler();
    try (StandardJavaFileManager files = compiler.getStandardFileManager(null, null, null)) {
      JavacTask task = (JavacTask) compiler.getTask(null, files, null,
          List.of("-proc:none"), null, files.getJavaFileObjects(SOURCE));
      Iterable<? extends CompilationUnitTree> units = task.parse();
      task.analyze();
      TreeRulesTest test = new TreeRulesTest(Trees.instance(task));
      for (CompilationUnitTree unit : units) {
        test.scan(unit, null);
      }
      test.checkDepths();
    }
    D.end();
  }

  private Element element(Tree tree) {
    return trees.getElement(trees.getPath(getCurrentPath().getCompilationUnit(), tree));
  }

  private static String name(Element method) {
    return method.getEnclosingElement() + "." + method.getSimpleName();
  }

  private static boolean isOwn(String type) {
    return type.equals("FieldsByDots") || type.startsWith("FieldsByDots.");
  }

  @Override
  public Void scan(Tree tree, Void nothing) {
    if (tree != null && FORBIDDEN.contains(tree.getKind()) && !isCastOfNumbers(tree)) {
      D.fail("forbidden: " + tree);
    }
    return super.scan(tree, nothing);
  }

  private static boolean isCastOfNumbers(Tree tree) {
    return tree instanceof com.sun.source.tree.TypeCastTree cast
        && cast.getType().getKind() == Tree.Kind.PRIMITIVE_TYPE;
  }

  /** Rules 2 and 11. */
  @Override
  public Void visitClass(ClassTree tree, Void nothing) {
    int fields = 0;
    for (Tree member : tree.getMembers()) {
      if (member instanceof VariableTree field
          && !field.getModifiers().getFlags().contains(Modifier.STATIC)) {
        fields++;
      }
    }
    D.due("rule 2: " + tree.getSimpleName() + " is a class", tree.getKind().ordinal(),
        Tree.Kind.CLASS.ordinal());
    D.due("rule 2: " + tree.getSimpleName() + " is no local one", open.size(), 0);
    D.due("rule 11: fields of " + tree.getSimpleName(), Math.max(fields, MOST_FIELDS),
        MOST_FIELDS);
    return super.visitClass(tree, nothing);
  }

  @Override
  public Void visitMethod(MethodTree tree, Void nothing) {
    open.push(tree);
    calls.putIfAbsent(name(element(tree)), new TreeSet<>());
    if (tree.getReturnType() != null) {
      TypeMirror type = ((ExecutableElement) element(tree)).getReturnType();
      boolean isFine = type.getKind() == TypeKind.VOID || isAllowed(type);
      D.due("rule 3: what " + tree.getName() + " answers", isFine ? 1 : 0, 1);
    }
    super.visitMethod(tree, nothing);
    open.pop();
    return null;
  }

  /** Rules 3 and 5. */
  @Override
  public Void visitVariable(VariableTree tree, Void nothing) {
    Element variable = element(tree);
    D.due("rule 3: type of " + tree, isAllowed(variable.asType()) ? 1 : 0, 1);
    if (variable.getModifiers().contains(Modifier.STATIC)) {
      boolean isFine = variable.getModifiers().contains(Modifier.FINAL)
          && tree.getInitializer() != null && NUMBERS.contains(variable.asType().getKind());
      D.due("rule 5: " + tree, isFine ? 1 : 0, 1);
    }
    return super.visitVariable(tree, nothing);
  }

  private static boolean isAllowed(TypeMirror type) {
    TypeMirror bare = type.getKind() == TypeKind.ARRAY
        ? ((ArrayType) type).getComponentType() : type;
    return NUMBERS.contains(bare.getKind()) || isOwn(bare.toString());
  }

  /** Rule 4; and who calls whom. */
  @Override
  public Void visitMethodInvocation(MethodInvocationTree tree, Void nothing) {
    ExecutableElement called = (ExecutableElement) element(tree.getMethodSelect());
    String owner = called.getEnclosingElement().toString();
    if (isOwn(owner)) {
      note(name(called));
    } else if (called.getKind() != ElementKind.CONSTRUCTOR) {
      boolean isFine = LIBRARY.contains(owner)
          && !called.getSimpleName().toString().endsWith("Exact")
          && called.getParameters().stream().allMatch(p -> NUMBERS.contains(p.asType().getKind()));
      D.due("rule 4: " + tree, isFine ? 1 : 0, 1);
    }
    return super.visitMethodInvocation(tree, nothing);
  }

  private void note(String called) {
    if (!open.isEmpty()) {
      calls.get(name(element(open.peek()))).add(called);
    }
  }

  /** Rule 12, for objects and for arrays: they are made with the object that keeps them. */
  @Override
  public Void visitNewClass(NewClassTree tree, Void nothing) {
    note(name(element(tree)));
    D.due("rule 2: a body of its own: " + tree, tree.getClassBody() == null ? 0 : 1, 0);
    D.due("rule 4: " + tree, isOwn(element(tree).getEnclosingElement().toString()) ? 1 : 0, 1);
    dueInConstructor(tree);
    return super.visitNewClass(tree, nothing);
  }

  @Override
  public Void visitNewArray(NewArrayTree tree, Void nothing) {
    dueInConstructor(tree);
    return super.visitNewArray(tree, nothing);
  }

  private void dueInConstructor(Tree tree) {
    boolean isFine = open.isEmpty() || open.peek().getReturnType() == null;
    D.due("rule 12: " + tree + " is made by a constructor", isFine ? 1 : 0, 1);
  }

  /** Rule 7: a divisor is a number above 0, or is looked at in the same method. */
  @Override
  public Void visitBinary(BinaryTree tree, Void nothing) {
    if (tree.getKind() == Tree.Kind.DIVIDE || tree.getKind() == Tree.Kind.REMAINDER) {
      String divisor = tree.getRightOperand().toString();
      boolean isFine = divisor.matches("[1-9]\\d*") || !open.isEmpty()
          && holds(open.peek(), TESTS, divisor);
      D.due("rule 7: the divisor of " + tree, isFine ? 1 : 0, 1);
    }
    return super.visitBinary(tree, nothing);
  }

  /** Rule 9. */
  @Override
  public Void visitForLoop(ForLoopTree tree, Void nothing) {
    dueBound(tree.getCondition(), tree);
    D.due("rule 9: steps of " + tree, tree.getUpdate().size(), 1);
    return super.visitForLoop(tree, nothing);
  }

  @Override
  public Void visitWhileLoop(WhileLoopTree tree, Void nothing) {
    dueBound(tree.getCondition(), tree);
    return super.visitWhileLoop(tree, nothing);
  }

  @Override
  public Void visitDoWhileLoop(DoWhileLoopTree tree, Void nothing) {
    dueBound(tree.getCondition(), tree);
    return super.visitDoWhileLoop(tree, nothing);
  }

  private static void dueBound(ExpressionTree condition, Tree loop) {
    boolean isFine = condition != null && holds(condition, COMPARISONS, null);
    D.due("rule 9: a bound of " + loop, isFine ? 1 : 0, 1);
  }

  /** Whether a tree compares something, in one of these ways, with the given left side (or any). */
  private static boolean holds(Tree tree, Set<Tree.Kind> kinds, String left) {
    boolean[] isFound = new boolean[1];
    new TreeScanner<Void, Void>() {
      @Override
      public Void visitBinary(BinaryTree inner, Void nothing) {
        isFound[0] |= kinds.contains(inner.getKind())
            && (left == null || inner.getLeftOperand().toString().equals(left));
        return super.visitBinary(inner, nothing);
      }
    }.scan(tree, null);
    return isFound[0];
  }

  /** Rules 8 and 11: no method calls itself by any way, and none goes too deep. */
  private void checkDepths() {
    D.due("methods were found", calls.size() > 60 ? 1 : 0, 1);
    for (String method : calls.keySet()) {
      int depth = depth(method, 1);
      D.due("rule 11: how deep " + method + " goes", Math.max(depth, DEEPEST), DEEPEST);
    }
  }

  private int depth(String method, int above) {
    int deepest = above;
    if (above <= DEEPEST) {
      for (String called : calls.getOrDefault(method, Set.of())) {
        deepest = Math.max(deepest, depth(called, above + 1));
      }
    }
    return deepest;
  }
}
