import com.sun.source.tree.ArrayAccessTree;
import com.sun.source.tree.AssertTree;
import com.sun.source.tree.AssignmentTree;
import com.sun.source.tree.BinaryTree;
import com.sun.source.tree.BlockTree;
import com.sun.source.tree.ClassTree;
import com.sun.source.tree.CompilationUnitTree;
import com.sun.source.tree.CompoundAssignmentTree;
import com.sun.source.tree.DoWhileLoopTree;
import com.sun.source.tree.EnhancedForLoopTree;
import com.sun.source.tree.ExpressionTree;
import com.sun.source.tree.ForLoopTree;
import com.sun.source.tree.LambdaExpressionTree;
import com.sun.source.tree.LiteralTree;
import com.sun.source.tree.MemberReferenceTree;
import com.sun.source.tree.MethodInvocationTree;
import com.sun.source.tree.MethodTree;
import com.sun.source.tree.NewArrayTree;
import com.sun.source.tree.NewClassTree;
import com.sun.source.tree.SynchronizedTree;
import com.sun.source.tree.ThrowTree;
import com.sun.source.tree.Tree;
import com.sun.source.tree.TryTree;
import com.sun.source.tree.TypeCastTree;
import com.sun.source.tree.UnaryTree;
import com.sun.source.tree.VariableTree;
import com.sun.source.tree.WhileLoopTree;
import com.sun.source.util.JavacTask;
import com.sun.source.util.SourcePositions;
import com.sun.source.util.TreePath;
import com.sun.source.util.TreePathScanner;
import com.sun.source.util.Trees;
import java.io.File;
import java.io.IOException;
import java.util.ArrayList;
import java.util.List;
import java.util.Map;
import java.util.Set;
import java.util.TreeMap;
import java.util.TreeSet;
import javax.lang.model.element.Element;
import javax.lang.model.element.ElementKind;
import javax.lang.model.element.Modifier;
import javax.lang.model.element.TypeElement;
import javax.lang.model.type.ArrayType;
import javax.lang.model.type.TypeMirror;
import javax.tools.JavaCompiler;
import javax.tools.StandardJavaFileManager;
import javax.tools.ToolProvider;

/** LANGUAGE.md, as far as it can be seen in the compiler's own tree of the class; each complaint bears its rule's number. */
public final class LanguageRules extends TreePathScanner<Void, Void> {
  static final Set<String> LIBRARY = Set.of("Math.max", "Math.min", "Long.bitCount", "System.arraycopy");
  static final Set<String> PRIMITIVES = Set.of("int", "long", "boolean", "void");
  /** Where objects may be made here: as an object is made, and where an image is kept first. */
  static final String MAKER = "MovedWays.keep";
  static final int MOST_LINES = 60, MOST_PARAMETERS = 7, DEEPEST = 8, MOST_CLASSES = 12, MOST_FIELDS = 20;

  final Trees trees;
  final CompilationUnitTree unit;
  final Set<String> faceNames = new TreeSet<>();
  final Map<String, Set<String>> calls = new TreeMap<>();
  final Map<String, Integer> fields = new TreeMap<>();
  int classes = 0, wrong = 0;

  LanguageRules(Trees trees, CompilationUnitTree unit) { this.trees = trees; this.unit = unit; }

  void must(boolean holds, int rule, Tree where, String what) {
    if (holds) return;
    wrong++;
    System.out.println("rule " + rule + ", line " + line(where, false) + ": " + what);
  }

  // ---- where we are

  long line(Tree tree, boolean atEnd) {
    SourcePositions positions = trees.getSourcePositions();
    long at = atEnd ? positions.getEndPosition(unit, tree) : positions.getStartPosition(unit, tree);
    return at < 0 ? 0 : unit.getLineMap().getLineNumber(at);
  }

  Element element() { return trees.getElement(getCurrentPath()); }

  <T extends Tree> T above(Class<T> kind) {
    for (TreePath p = getCurrentPath().getParentPath(); p != null; p = p.getParentPath()) if (kind.isInstance(p.getLeaf())) return kind.cast(p.getLeaf());
    return null;
  }

  boolean isInLoop() {
    for (TreePath p = getCurrentPath().getParentPath(); p != null; p = p.getParentPath()) {
      Tree t = p.getLeaf();
      if (t instanceof MethodTree) return false;
      if (t instanceof ForLoopTree || t instanceof WhileLoopTree || t instanceof DoWhileLoopTree || t instanceof EnhancedForLoopTree) return true;
    }
    return false;
  }

  static String className(Element type) { return type.getSimpleName().toString(); }

  /** The method whose calls these are; what stands in a field's initialiser is called by the constructor. */
  String caller() {
    ClassTree in = above(ClassTree.class);
    MethodTree method = above(MethodTree.class);
    return in.getSimpleName() + "." + (method == null ? "<init>" : method.getName());
  }

  boolean isOwn(Element type) {
    for (Element e = type; e != null; e = e.getEnclosingElement()) if (e instanceof TypeElement t && t.getQualifiedName().contentEquals("MovedWays")) return true;
    return false;
  }

  boolean isAllowed(TypeMirror type) {
    if (type instanceof ArrayType row) return !(row.getComponentType() instanceof ArrayType) && isAllowed(row.getComponentType());
    return PRIMITIVES.contains(type.toString()) || type.toString().startsWith("MovedWays");
  }

  // ---- what there is

  @Override public Void visitClass(ClassTree c, Void v) {
    classes++;
    TreePath parent = getCurrentPath().getParentPath();
    boolean isOuter = parent.getLeaf() instanceof CompilationUnitTree;
    Set<Modifier> modifiers = c.getModifiers().getFlags();
    must(isOuter || parent.getLeaf() instanceof ClassTree, 2, c, "a class within a method");
    must(isOuter || modifiers.contains(Modifier.STATIC) && !modifiers.contains(Modifier.PUBLIC) && !modifiers.contains(Modifier.PROTECTED), 2, c, "a class inside is static, not public");
    for (Tree member : c.getMembers()) if (member instanceof BlockTree b) must(!b.isStatic(), 5, b, "a static block");
    return super.visitClass(c, v);
  }

  @Override public Void visitMethod(MethodTree m, Void v) {
    String in = above(ClassTree.class).getSimpleName().toString();
    boolean isFace = in.equals("MovedWays") && m.getModifiers().getFlags().contains(Modifier.PUBLIC);
    boolean isMade = trees.getSourcePositions().getEndPosition(unit, m) < 0;
    must(isFace || !faceNames.contains(m.getName().toString()), 1, m, m.getName() + " bears a public name");
    must(!in.equals("MovedWays") || isFace || m.getModifiers().getFlags().contains(Modifier.PRIVATE), 1, m, m.getName() + " is neither public nor private");
    must(m.getThrows().isEmpty(), 6, m, "throws");
    must(m.getParameters().size() <= MOST_PARAMETERS, 11, m, m.getName() + " takes too many");
    must(isMade || line(m, true) - line(m, false) < MOST_LINES, 11, m, m.getName() + " is long");
    if (m.getReturnType() != null) must(isAllowed(trees.getTypeMirror(new TreePath(getCurrentPath(), m.getReturnType()))), 3, m, "answers " + m.getReturnType());
    calls.computeIfAbsent(in + "." + m.getName(), k -> new TreeSet<>());
    return super.visitMethod(m, v);
  }

  @Override public Void visitVariable(VariableTree f, Void v) {
    must(isAllowed(element().asType()), 3, f, f.getName() + " is a " + element().asType());
    Set<Modifier> modifiers = f.getModifiers().getFlags();
    if (element().getKind() == ElementKind.FIELD) {
      if (modifiers.contains(Modifier.STATIC)) {
        must(modifiers.contains(Modifier.FINAL), 5, f, f.getName() + " is not final");
        must(f.getInitializer() instanceof NewArrayTree a ? a.getInitializers() != null : ((javax.lang.model.element.VariableElement) element()).getConstantValue() != null, 5, f, f.getName() + " is no constant");
      } else {
        fields.merge(above(ClassTree.class).getSimpleName().toString(), 1, Integer::sum);
      }
    }
    return super.visitVariable(f, v);
  }

  // ---- what is made and called

  @Override public Void visitNewClass(NewClassTree n, Void v) {
    must(n.getClassBody() == null, 2, n, "an anonymous class");
    Element type = element().getEnclosingElement();
    must(isOwn(type), 3, n, "made: " + type);
    makes(n);
    calls.computeIfAbsent(caller(), k -> new TreeSet<>()).add(className(type) + ".<init>");
    return super.visitNewClass(n, v);
  }

  @Override public Void visitNewArray(NewArrayTree n, Void v) {
    must(n.getDimensions().size() <= 1, 3, n, "an array of more than one dimension");
    makes(n);
    return super.visitNewArray(n, v);
  }

  void makes(Tree n) {
    must(caller().endsWith(".<init>") || caller().equals(MAKER), 12, n, "made in " + caller());
    must(!isInLoop(), 12, n, "made in a loop");
  }

  @Override public Void visitMethodInvocation(MethodInvocationTree call, Void v) {
    Element called = element();
    Element type = called.getEnclosingElement();
    String name = className(type) + "." + called.getSimpleName();
    boolean isSuper = called.getKind() == ElementKind.CONSTRUCTOR;
    must(isSuper || isOwn(type) || LIBRARY.contains(name), 4, call, "the library's " + name);
    if (!isSuper) calls.computeIfAbsent(caller(), k -> new TreeSet<>()).add(name);
    return super.visitMethodInvocation(call, v);
  }

  // ---- what there must not be

  @Override public Void visitLambdaExpression(LambdaExpressionTree t, Void v) { must(false, 2, t, "a lambda"); return null; }
  @Override public Void visitMemberReference(MemberReferenceTree t, Void v) { must(false, 2, t, "a method reference"); return null; }
  @Override public Void visitThrow(ThrowTree t, Void v) { must(false, 6, t, "throw"); return null; }
  @Override public Void visitTry(TryTree t, Void v) { must(false, 6, t, "try"); return null; }
  @Override public Void visitSynchronized(SynchronizedTree t, Void v) { must(false, 6, t, "synchronized"); return null; }
  @Override public Void visitAssert(AssertTree t, Void v) { must(false, 6, t, "assert"); return null; }
  @Override public Void visitEnhancedForLoop(EnhancedForLoopTree t, Void v) { must(false, 12, t, "an iterator would be made"); return null; }

  @Override public Void visitLiteral(LiteralTree t, Void v) {
    must(!(t.getValue() instanceof Double || t.getValue() instanceof Float || t.getValue() instanceof String), 3, t, "a literal " + t);
    return super.visitLiteral(t, v);
  }

  @Override public Void visitTypeCast(TypeCastTree t, Void v) {
    must(PRIMITIVES.contains(t.getType().toString()), 6, t, "a cast to " + t.getType());
    return super.visitTypeCast(t, v);
  }

  // ---- loops, divisors, indices

  @Override public Void visitForLoop(ForLoopTree t, Void v) {
    must(t.getCondition() != null && !t.getUpdate().isEmpty(), 9, t, "a loop without a bound");
    return super.visitForLoop(t, v);
  }

  @Override public Void visitWhileLoop(WhileLoopTree t, Void v) {
    must(t.getCondition().toString().contains("<"), 9, t, "a loop without a bound");
    return super.visitWhileLoop(t, v);
  }

  @Override public Void visitDoWhileLoop(DoWhileLoopTree t, Void v) { must(false, 9, t, "do"); return super.visitDoWhileLoop(t, v); }

  @Override public Void visitBinary(BinaryTree t, Void v) {
    if (t.getKind() == Tree.Kind.DIVIDE || t.getKind() == Tree.Kind.REMAINDER) divides(t, t.getRightOperand());
    return super.visitBinary(t, v);
  }

  void divides(Tree t, ExpressionTree by) {
    boolean isNumber = by instanceof LiteralTree l && l.getValue() instanceof Integer n && n != 0;
    must(isNumber || above(MethodTree.class).toString().contains(by + " > 0 ? "), 7, t, "the divisor " + by + " is not looked at");
  }

  /** Seen from the method's own lines: it holds something against the array's length. */
  @Override public Void visitArrayAccess(ArrayAccessTree t, Void v) {
    String row = t.getExpression().toString();
    must(above(MethodTree.class).toString().matches("(?s).*(<|>|<=|>=) " + row + "\\.length.*"), 7, t, "the index of " + row + " is not looked at");
    return super.visitArrayAccess(t, v);
  }

  @Override public Void visitAssignment(AssignmentTree t, Void v) { changes(t.getVariable()); return super.visitAssignment(t, v); }

  @Override public Void visitCompoundAssignment(CompoundAssignmentTree t, Void v) {
    changes(t.getVariable());
    boolean isDivision = t.getKind() == Tree.Kind.DIVIDE_ASSIGNMENT || t.getKind() == Tree.Kind.REMAINDER_ASSIGNMENT;
    if (isDivision) divides(t, t.getExpression());
    return super.visitCompoundAssignment(t, v);
  }

  @Override public Void visitUnary(UnaryTree t, Void v) {
    if (t.getKind().toString().contains("CREMENT")) changes(t.getExpression());
    return super.visitUnary(t, v);
  }

  void changes(ExpressionTree variable) {
    if (!(variable instanceof ArrayAccessTree a)) return;
    Element row = trees.getElement(new TreePath(getCurrentPath(), a.getExpression()));
    must(row != null && !row.getModifiers().contains(Modifier.STATIC), 5, variable, "a static array is changed");
  }

  // ---- how deep calls go

  /** The longest chain of calls from here on, or one with a call that stands open already. */
  List<String> deepest(String from, List<String> open) {
    List<String> chain = new ArrayList<>(List.of(from));
    if (open.contains(from)) return chain;
    open.add(from);
    List<String> longest = List.of();
    for (String to : calls.getOrDefault(from, Set.of())) {
      must(!open.contains(to), 8, unit, from + " calls itself by " + to);
      List<String> next = deepest(to, open);
      if (next.size() > longest.size()) longest = next;
    }
    open.remove(from);
    chain.addAll(longest);
    return chain;
  }

  void looksAtAll() {
    List<String> longest = List.of();
    for (String method : calls.keySet()) {
      List<String> chain = deepest(method, new ArrayList<>());
      if (chain.size() > longest.size()) longest = chain;
    }
    must(longest.size() <= DEEPEST, 11, unit, "too deep: " + longest);
    must(classes <= MOST_CLASSES, 11, unit, classes + " classes");
    fields.forEach((in, n) -> must(n <= MOST_FIELDS, 11, unit, in + " has " + n + " fields"));
    System.out.println("deepest: " + String.join(" > ", longest));
  }

  void facesOf(TypeElement type) {
    for (Element e : type.getEnclosedElements()) if (e.getKind() == ElementKind.METHOD && e.getModifiers().contains(Modifier.PUBLIC)) faceNames.add(e.getSimpleName().toString());
  }

  public static void main(String[] args) throws IOException {
    JavaCompiler compiler = ToolProvider.getSystemJavaCompiler();
    File file = new File(System.getProperty("main"));
    try (StandardJavaFileManager files = compiler.getStandardFileManager(null, null, null)) {
      JavacTask task = (JavacTask) compiler.getTask(null, files, null, List.of("--release", "17", "-proc:none"), null, files.getJavaFileObjects(file));
      CompilationUnitTree unit = task.parse().iterator().next();
      task.analyze();
      LanguageRules rules = new LanguageRules(Trees.instance(task), unit);
      rules.must(unit.getImports().isEmpty() && unit.getPackageName() == null, 4, unit, "an import, or a package");
      rules.facesOf(task.getElements().getTypeElement("MovedWays"));
      rules.scan(unit, null);
      rules.looksAtAll();
      System.out.println(rules.wrong == 0 ? "all rules hold" : rules.wrong + " rules do not hold");
      if (rules.wrong != 0) System.exit(1);
    }
  }
}
