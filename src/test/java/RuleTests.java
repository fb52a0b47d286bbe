import com.sun.source.tree.AnnotationTree;
import com.sun.source.tree.AssertTree;
import com.sun.source.tree.BinaryTree;
import com.sun.source.tree.ClassTree;
import com.sun.source.tree.CompilationUnitTree;
import com.sun.source.tree.CompoundAssignmentTree;
import com.sun.source.tree.DoWhileLoopTree;
import com.sun.source.tree.ForLoopTree;
import com.sun.source.tree.LambdaExpressionTree;
import com.sun.source.tree.LiteralTree;
import com.sun.source.tree.MemberReferenceTree;
import com.sun.source.tree.MethodInvocationTree;
import com.sun.source.tree.MethodTree;
import com.sun.source.tree.NewArrayTree;
import com.sun.source.tree.NewClassTree;
import com.sun.source.tree.SynchronizedTree;
import com.sun.source.tree.ThrowTree;
import com.sun.source.tree.Tree;
import com.sun.source.tree.TryTree;
import com.sun.source.tree.TypeCastTree;
import com.sun.source.tree.VariableTree;
import com.sun.source.tree.WhileLoopTree;
import com.sun.source.util.JavacTask;
import com.sun.source.util.SourcePositions;
import com.sun.source.util.TreePath;
import com.sun.source.util.TreePathScanner;
import com.sun.source.util.Trees;
import java.io.File;
import java.io.IOException;
import java.util.ArrayList;
import java.util.HashMap;
import java.util.HashSet;
import java.util.LinkedHashMap;
import java.util.LinkedHashSet;
import java.util.List;
import java.util.Map;
import java.util.Set;
import javax.lang.model.element.Element;
import javax.lang.model.element.ElementKind;
import javax.lang.model.element.ExecutableElement;
import javax.lang.model.element.Modifier;
import javax.lang.model.element.TypeElement;
import javax.lang.model.type.ArrayType;
import javax.lang.model.type.TypeMirror;
import javax.lang.model.util.Elements;
import javax.tools.JavaCompiler;
import javax.tools.StandardJavaFileManager;
import javax.tools.ToolProvider;

/** Those rules of LANGUAGE.md that are seen only where the program's tree is looked at; each complaint tells the rule's number. */
public final class RuleTests {
  private static final File SOURCE = new File("src/main/java/IcicleEaves.java");
  private static final int LINES_MOST = 60, PARAMETERS_MOST = 7, DEPTH_MOST = 8, CLASSES_MOST = 12, FIELDS_MOST = 20;

  private static final Set<String> LIBRARY = Set.of(
      "java.lang.String.length", "java.lang.String.charAt", "java.lang.String.isEmpty", "java.lang.String.equals",
      "java.lang.Math.max", "java.lang.Math.min", "java.lang.Math.abs", "java.lang.Math.floorMod", "java.lang.Math.floorDiv",
      "java.lang.Integer.bitCount", "java.lang.Integer.compare", "java.lang.System.arraycopy",
      "java.util.Arrays.fill", "java.util.Arrays.copyOf", "java.util.Arrays.copyOfRange");
  private static final Set<String> NUMBERS = Set.of("int", "long", "short", "byte", "char", "boolean");
  private static final Set<String> CONSTANTS = Set.of("int", "long", "boolean", "char", "java.lang.String",
      "int[]", "long[]", "char[]", "byte[]");

  private static int wrong = 0;

  private static void due(boolean holds, int rule, String what) {
    if (!holds) {
      wrong++;
      System.out.println("RuleTests: rule " + rule + ": " + what);
    }
  }

  /** Goes through the tree once; what it gathers of calls is looked at behind that. */
  private static final class Walk extends TreePathScanner<Void, Void> {
    private final Trees trees;
    private final Elements elements;
    private final CompilationUnitTree unit;
    private final Map<ExecutableElement, Set<ExecutableElement>> calls = new LinkedHashMap<>();
    private final List<TypeElement> classes = new ArrayList<>();

    Walk(Trees trees, Elements elements, CompilationUnitTree unit) {
      this.trees = trees;
      this.elements = elements;
      this.unit = unit;
    }

    private String at(Tree tree) {
      SourcePositions positions = trees.getSourcePositions();
      return "line " + unit.getLineMap().getLineNumber(positions.getStartPosition(unit, tree));
    }

    private Element element(Tree tree) { return trees.getElement(new TreePath(getCurrentPath(), tree)); }

    private TypeMirror type(Tree tree) { return trees.getTypeMirror(new TreePath(getCurrentPath(), tree)); }

    private ExecutableElement method() {
      for (TreePath p = getCurrentPath(); p != null; p = p.getParentPath()) {
        if (p.getLeaf() instanceof MethodTree) return (ExecutableElement) trees.getElement(p);
      }
      return null;
    }

    private void banned(int rule, Tree tree, String what) { due(false, rule, at(tree) + " has " + what); }

    public Void visitClass(ClassTree tree, Void v) {
      TypeElement c = (TypeElement) trees.getElement(getCurrentPath());
      classes.add(c);
      due(c.getEnclosingElement().getKind() != ElementKind.METHOD && !c.getSimpleName().isEmpty(), 2, at(tree) + ": a local class");
      boolean inside = c.getEnclosingElement().getKind() == ElementKind.CLASS;
      due(!inside || c.getModifiers().contains(Modifier.STATIC), 2, c + " is not static");
      long fields = c.getEnclosedElements().stream()
          .filter(e -> e.getKind() == ElementKind.FIELD && !e.getModifiers().contains(Modifier.STATIC)).count();
      due(fields <= FIELDS_MOST, 11, c + " has " + fields + " fields");
      return super.visitClass(tree, v);
    }

    public Void visitMethod(MethodTree tree, Void v) {
      ExecutableElement m = (ExecutableElement) trees.getElement(getCurrentPath());
      calls.computeIfAbsent(m, k -> new LinkedHashSet<>());
      SourcePositions positions = trees.getSourcePositions();
      long first = unit.getLineMap().getLineNumber(Math.max(0, positions.getStartPosition(unit, tree)));
      long last = unit.getLineMap().getLineNumber(Math.max(0, positions.getEndPosition(unit, tree)));
      due(last - first < LINES_MOST, 11, m + " has " + (last - first + 1) + " lines");
      due(tree.getParameters().size() <= PARAMETERS_MOST, 11, m + " takes too much");
      return super.visitMethod(tree, v);
    }

    public Void visitVariable(VariableTree tree, Void v) {
      Element e = trees.getElement(getCurrentPath());
      TypeMirror t = e.asType();
      if (e.getKind() == ElementKind.FIELD && e.getModifiers().contains(Modifier.STATIC)) {
        due(e.getModifiers().contains(Modifier.FINAL), 5, e + " is static and may change");
        due(CONSTANTS.contains(t.toString()), 5, e + " is static and of " + t);
      }
      due(allowed(t), 3, e + " is of " + t);
      return super.visitVariable(tree, v);
    }

    private boolean allowed(TypeMirror t) {
      if (t instanceof ArrayType) {
        TypeMirror of = ((ArrayType) t).getComponentType();
        return of instanceof ArrayType ? NUMBERS.contains(((ArrayType) of).getComponentType().toString()) : allowed(of);
      }
      String name = t.toString();
      return NUMBERS.contains(name) || name.equals("java.lang.String") || name.startsWith("IcicleEaves");
    }

    public Void visitMethodInvocation(MethodInvocationTree tree, Void v) {
      ExecutableElement to = (ExecutableElement) element(tree.getMethodSelect());
      ExecutableElement by = method();
      if (by != null) calls.computeIfAbsent(by, k -> new LinkedHashSet<>()).add(to);
      if (!isOwn(to) && to.getKind() == ElementKind.METHOD) {
        due(LIBRARY.contains(to.getEnclosingElement() + "." + to.getSimpleName()), 4, at(tree) + " calls " + tree.getMethodSelect());
      }
      return super.visitMethodInvocation(tree, v);
    }

    public Void visitNewClass(NewClassTree tree, Void v) {
      due(tree.getClassBody() == null, 2, at(tree) + " has an anonymous class");
      madeHere(tree);
      return super.visitNewClass(tree, v);
    }

    public Void visitNewArray(NewArrayTree tree, Void v) {
      madeHere(tree);
      return super.visitNewArray(tree, v);
    }

    /** All calls share one room, so none of them makes anything: what it needs is made with the object. */
    private void madeHere(Tree tree) {
      ExecutableElement by = method();
      due(by == null || by.getKind() == ElementKind.CONSTRUCTOR, 12, at(tree) + " makes something in a call: " + tree);
    }

    public Void visitTypeCast(TypeCastTree tree, Void v) {
      due(type(tree.getType()).getKind().isPrimitive(), 6, at(tree) + " casts: " + tree);
      return super.visitTypeCast(tree, v);
    }

    public Void visitBinary(BinaryTree tree, Void v) {
      boolean plus = tree.getKind() == Tree.Kind.PLUS;
      due(!plus || type(tree).getKind().isPrimitive(), 10, at(tree) + " joins texts: " + tree);
      if (tree.getKind() == Tree.Kind.EQUAL_TO || tree.getKind() == Tree.Kind.NOT_EQUAL_TO) {
        due(!type(tree.getLeftOperand()).toString().startsWith("java."), 6, at(tree) + " compares " + tree);
      }
      return super.visitBinary(tree, v);
    }

    public Void visitCompoundAssignment(CompoundAssignmentTree tree, Void v) {
      due(type(tree.getVariable()).getKind().isPrimitive(), 10, at(tree) + " joins texts: " + tree);
      return super.visitCompoundAssignment(tree, v);
    }

    // ---- loops whose end can be seen

    public Void visitForLoop(ForLoopTree tree, Void v) {
      due(tree.getCondition() != null && bounded(tree.getCondition()), 9, at(tree) + ": a loop without a bound");
      due(!tree.getUpdate().isEmpty(), 9, at(tree) + ": a loop that does not count");
      return super.visitForLoop(tree, v);
    }

    public Void visitWhileLoop(WhileLoopTree tree, Void v) {
      due(bounded(tree.getCondition()), 9, at(tree) + ": a loop without a bound");
      return super.visitWhileLoop(tree, v);
    }

    public Void visitDoWhileLoop(DoWhileLoopTree tree, Void v) {
      due(bounded(tree.getCondition()), 9, at(tree) + ": a loop without a bound");
      return super.visitDoWhileLoop(tree, v);
    }

    /** A number is compared with a bound, alone or together with what may end the loop earlier. */
    private static boolean bounded(Tree condition) {
      switch (condition.getKind()) {
        case PARENTHESIZED: return bounded(((com.sun.source.tree.ParenthesizedTree) condition).getExpression());
        case CONDITIONAL_AND:
          return bounded(((BinaryTree) condition).getLeftOperand()) || bounded(((BinaryTree) condition).getRightOperand());
        case LESS_THAN: case LESS_THAN_EQUAL: case GREATER_THAN: case GREATER_THAN_EQUAL: return true;
        default: return false;
      }
    }

    // ---- what may not stand anywhere

    public Void visitLambdaExpression(LambdaExpressionTree t, Void v) { banned(2, t, "a lambda"); return null; }
    public Void visitMemberReference(MemberReferenceTree t, Void v) { banned(2, t, "a method reference"); return null; }
    public Void visitThrow(ThrowTree t, Void v) { banned(6, t, "throw"); return null; }
    public Void visitTry(TryTree t, Void v) { banned(6, t, "try"); return null; }
    public Void visitSynchronized(SynchronizedTree t, Void v) { banned(6, t, "synchronized"); return null; }
    public Void visitAssert(AssertTree t, Void v) { banned(6, t, "assert"); return null; }
    public Void visitAnnotation(AnnotationTree t, Void v) { banned(4, t, "an annotation"); return null; }

    public Void visitLiteral(LiteralTree tree, Void v) {
      if (tree.getValue() instanceof String) {
        boolean plain = ((String) tree.getValue()).chars().allMatch(c -> c >= 1 && c <= 127);
        due(plain, 4, at(tree) + " has signs outside 1 to 127");
      }
      return super.visitLiteral(tree, v);
    }

    // ---- how deep calls go

    private static boolean isOwn(Element e) {
      for (Element up = e; up != null; up = up.getEnclosingElement()) {
        if (up.getSimpleName().contentEquals("IcicleEaves")) return true;
      }
      return false;
    }

    /** A call of a method that others override may be a call of each of those. */
    private Set<ExecutableElement> targets(ExecutableElement called) {
      Set<ExecutableElement> all = new LinkedHashSet<>();
      for (ExecutableElement m : calls.keySet()) {
        boolean overrides = m != called && m.getKind() == ElementKind.METHOD
            && elements.overrides(m, called, (TypeElement) m.getEnclosingElement());
        if (m.equals(called) || overrides) all.add(m);
      }
      return all;
    }

    /** Own methods and the library's that stand open at once at most, from one on; the library counts one. */
    int depth(ExecutableElement m, Map<ExecutableElement, Integer> known, Set<ExecutableElement> open) {
      if (known.containsKey(m)) return known.get(m);
      if (!open.add(m)) {
        due(false, 8, m + " comes back to itself");
        return 0;
      }
      int deepest = 0;
      for (ExecutableElement called : calls.getOrDefault(m, Set.of())) {
        if (!isOwn(called)) deepest = Math.max(deepest, called.getKind() == ElementKind.METHOD ? 1 : 0);
        for (ExecutableElement to : targets(called)) deepest = Math.max(deepest, depth(to, known, open));
      }
      open.remove(m);
      known.put(m, deepest + 1);
      return deepest + 1;
    }

    void finish() {
      due(classes.size() <= CLASSES_MOST, 11, classes.size() + " classes");
      Map<ExecutableElement, Integer> known = new HashMap<>();
      for (ExecutableElement m : calls.keySet()) {
        int deep = depth(m, known, new HashSet<>());
        due(deep <= DEPTH_MOST, 11, m + " goes " + deep + " deep");
      }
    }
  }

  private static Walk walk(File source) throws IOException {
    JavaCompiler compiler = ToolProvider.getSystemJavaCompiler();
    try (StandardJavaFileManager files = compiler.getStandardFileManager(null, null, null)) {
      List<String> options = List.of("--release", "17", "-proc:none");
      JavacTask task = (JavacTask) compiler.getTask(null, files, null, options, null, files.getJavaFileObjects(source));
      CompilationUnitTree unit = task.parse().iterator().next();
      task.analyze();
      Walk walk = new Walk(Trees.instance(task), task.getElements(), unit);
      walk.scan(unit, null);
      return walk;
    }
  }

  public static void main(String[] args) throws IOException {
    Walk walk = walk(args.length > 0 ? new File(args[0]) : SOURCE);
    walk.finish();
    due(walk.calls.size() > 44, 1, "the program was not looked at");
    System.out.println(wrong == 0 ? "RuleTests: all is as due" : "RuleTests: " + wrong + " are not as due");
    if (wrong != 0) System.exit(1);
  }
}
