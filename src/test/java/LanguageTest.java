import com.sun.source.tree.AssertTree;
import com.sun.source.tree.ClassTree;
import com.sun.source.tree.CompilationUnitTree;
import com.sun.source.tree.EnhancedForLoopTree;
import com.sun.source.tree.ForLoopTree;
import com.sun.source.tree.ImportTree;
import com.sun.source.tree.InstanceOfTree;
import com.sun.source.tree.LambdaExpressionTree;
import com.sun.source.tree.LiteralTree;
import com.sun.source.tree.MemberReferenceTree;
import com.sun.source.tree.MemberSelectTree;
import com.sun.source.tree.MethodInvocationTree;
import com.sun.source.tree.MethodTree;
import com.sun.source.tree.NewArrayTree;
import com.sun.source.tree.NewClassTree;
import com.sun.source.tree.PrimitiveTypeTree;
import com.sun.source.tree.SynchronizedTree;
import com.sun.source.tree.ThrowTree;
import com.sun.source.tree.Tree;
import com.sun.source.tree.TryTree;
import com.sun.source.tree.TypeCastTree;
import com.sun.source.tree.VariableTree;
import com.sun.source.tree.WhileLoopTree;
import com.sun.source.util.JavacTask;
import com.sun.source.util.TreePath;
import com.sun.source.util.TreePathScanner;
import com.sun.source.util.Trees;
import java.io.IOException;
import java.lang.reflect.Modifier;
import java.nio.file.Path;
import java.util.ArrayList;
import java.util.Arrays;
import java.util.HashMap;
import java.util.HashSet;
import java.util.List;
import java.util.Map;
import java.util.Set;
import java.util.TreeMap;
import java.util.TreeSet;
import javax.lang.model.element.Element;
import javax.lang.model.element.ElementKind;
import javax.lang.model.type.TypeKind;
import javax.tools.JavaCompiler;
import javax.tools.StandardJavaFileManager;
import javax.tools.ToolProvider;

/**
 * The document's face, and those rules of LANGUAGE.md that a look at the source can settle. Where the class needs
 * less than a rule grants (it throws nothing, casts no object, makes none in a call), this asks for the less.
 */
public final class LanguageTest {
  private static final Path SOURCE = Path.of("src", "main", "java", "LadderSigns.java");
  private static final Set<String> FACE = new TreeSet<>(Arrays.asList(
      "int set(int,int,long)", "long word(int,int)", "int copy(int,int)", "int type(long,int)", "int clear()",
      "int at(int)", "int flip(int,int,int)", "int field(int,int,int,int)", "int power(int,int,int)",
      "int root(int,int)", "int about(int,int)", "int compare(int,int)", "int scalar(int,int,int,int)",
      "int isPoint(int)", "int across(int,int)", "int sum(int,int,int,int)", "int times(int,int,int)",
      "int base(int,int)", "int small(int)", "int other(int,int)", "int share(int,int,int)", "int digest(int)",
      "int key(int,int)", "int sign(int,int)", "int judge(int,int)", "int count(int)"));
  private static final Set<String> CONSTANTS = Set.of("NONE", "UNKNOWN", "OUTSIDE", "STATE", "FULL");
  /** What the class calls of the library; rule 4 grants both. */
  private static final Set<String> LIBRARY = Set.of("java.lang.System.arraycopy", "java.util.Arrays.fill");

  private static final Due DUE = new Due("LanguageTest");

  public static void main(String[] args) throws IOException {
    face();
    source();
    DUE.end();
  }

  private static void face() {
    Set<String> methods = new TreeSet<>();
    for (var m : LadderSigns.class.getDeclaredMethods()) {
      if (Modifier.isPrivate(m.getModifiers())) continue;
      StringBuilder told = new StringBuilder(m.getReturnType() + " " + m.getName() + "(");
      for (Class<?> type : m.getParameterTypes()) told.append(told.toString().endsWith("(") ? "" : ",").append(type);
      methods.add(told + ")");
      DUE.is(m.getName() + " is public and of the object", m.getModifiers(), Modifier.PUBLIC);
    }
    DUE.same("the methods of the face", methods, FACE);
    Set<String> constants = new HashSet<>();
    for (var f : LadderSigns.class.getDeclaredFields()) {
      if (Modifier.isPrivate(f.getModifiers())) continue;
      constants.add(f.getName());
      DUE.is(f.getName(), f.getModifiers(), Modifier.PUBLIC | Modifier.STATIC | Modifier.FINAL);
      DUE.same(f.getName(), f.getType(), int.class);
    }
    DUE.same("the constants of the face", constants, CONSTANTS);
    DUE.is("constructors", LadderSigns.class.getDeclaredConstructors().length, 1);
    DUE.is("the constructor's arguments", LadderSigns.class.getDeclaredConstructors()[0].getParameterCount(), 0);
    DUE.is("the class is public and final", LadderSigns.class.getModifiers(), Modifier.PUBLIC | Modifier.FINAL);
    for (Class<?> inside : LadderSigns.class.getDeclaredClasses()) {
      int seen = inside.getModifiers() & (Modifier.PUBLIC | Modifier.PROTECTED | Modifier.STATIC);
      DUE.is(inside + " is static and not public", seen, Modifier.STATIC);
    }
  }

  private static void source() throws IOException {
    JavaCompiler compiler = ToolProvider.getSystemJavaCompiler();
    try (StandardJavaFileManager files = compiler.getStandardFileManager(null, null, null)) {
      JavacTask task = (JavacTask) compiler.getTask(null, files, null, List.of("-proc:none"), null,
          files.getJavaFileObjects(SOURCE));
      for (CompilationUnitTree unit : task.parse()) {
        task.analyze();
        Rules rules = new Rules(Trees.instance(task), unit);
        rules.scan(unit, null);
        rules.end();
      }
    }
  }

  private static final class Rules extends TreePathScanner<Void, Void> {
    private final Trees trees;
    private final CompilationUnitTree unit;
    private final Map<String, Set<String>> calls = new TreeMap<>();
    private final Map<String, Integer> depths = new HashMap<>();
    private int classes = 0;

    Rules(Trees trees, CompilationUnitTree unit) {
      this.trees = trees;
      this.unit = unit;
    }

    private long line(Tree tree) {
      return unit.getLineMap().getLineNumber(trees.getSourcePositions().getStartPosition(unit, tree));
    }

    private long lastLine(Tree tree) {
      return unit.getLineMap().getLineNumber(trees.getSourcePositions().getEndPosition(unit, tree));
    }

    private Void never(Tree tree) {
      DUE.same("line " + line(tree), tree.getKind() + ": " + tree, "something within the rules");
      return null;
    }

    private void within(String what, long n, long most) {
      DUE.is(what + " (" + n + ") is within " + most, n <= most ? 1 : 0, 1);
    }

    void end() {
      within("classes", classes, 12);
      DUE.is("methods were seen", calls.size() > FACE.size() ? 1 : 0, 1);
      int most = 0;
      for (String method : calls.keySet()) most = Math.max(most, depth(method, new ArrayList<>()));
      within("calls that stand open at once", most, 8);
    }

    /** How many calls stand open at once, this one and those of the class that it makes. */
    private int depth(String method, List<String> open) {
      if (open.contains(method)) {
        DUE.same("recursion", open + " and again " + method, "none");
        return 0;
      }
      if (depths.containsKey(method)) return depths.get(method);
      open.add(method);
      int below = 0;
      for (String called : calls.getOrDefault(method, Set.of())) below = Math.max(below, depth(called, open));
      open.remove(method);
      depths.put(method, below + 1);
      return below + 1;
    }

    private Tree enclosing(Tree.Kind kind) {
      for (TreePath path = getCurrentPath(); path != null; path = path.getParentPath()) {
        if (path.getLeaf().getKind() == kind) return path.getLeaf();
      }
      return null;
    }

    private String told(Element method) {
      return method.getEnclosingElement() + "." + method;
    }

    private void addCall(Tree call) {
      Element called = trees.getElement(getCurrentPath());
      MethodTree from = (MethodTree) enclosing(Tree.Kind.METHOD);
      boolean own = called.getEnclosingElement().toString().startsWith("LadderSigns");
      if (!own) {
        String name = called.getEnclosingElement() + "." + called.getSimpleName();
        DUE.is("line " + line(call) + " calls " + name, LIBRARY.contains(name) ? 1 : 0, 1);
      } else if (from != null) {
        Element caller = trees.getElement(trees.getPath(unit, from));
        calls.computeIfAbsent(told(caller), none -> new TreeSet<>()).add(told(called));
      }
    }

    @Override
    public Void visitMethodInvocation(MethodInvocationTree tree, Void none) {
      if (!tree.toString().equals("super()")) addCall(tree);
      return super.visitMethodInvocation(tree, none);
    }

    @Override
    public Void visitNewClass(NewClassTree tree, Void none) {
      addCall(tree);
      onlyWhereMade(tree);
      return super.visitNewClass(tree, none);
    }

    @Override
    public Void visitNewArray(NewArrayTree tree, Void none) {
      onlyWhereMade(tree);
      within("line " + line(tree) + ": an array's dimensions", tree.getDimensions().size(), 2);
      return super.visitNewArray(tree, none);
    }

    private void onlyWhereMade(Tree tree) {
      MethodTree method = (MethodTree) enclosing(Tree.Kind.METHOD);
      boolean fits = method == null || method.getName().contentEquals("<init>");
      DUE.is("line " + line(tree) + " makes an object in a constructor or for a field", fits ? 1 : 0, 1);
    }

    @Override
    public Void visitMethod(MethodTree tree, Void none) {
      Element method = trees.getElement(getCurrentPath());
      calls.computeIfAbsent(told(method), nothing -> new TreeSet<>());
      within("lines of " + method, lastLine(tree) - line(tree) + 1, 60);
      within("parameters of " + method, tree.getParameters().size(), 7);
      boolean isPublic = method.getModifiers().contains(javax.lang.model.element.Modifier.PUBLIC);
      boolean facesName = Both.FACE.containsKey(tree.getName().toString());
      DUE.is(method + " bears a name of the face just if it is public", facesName ? 1 : 0,
          isPublic && method.getKind() == ElementKind.METHOD ? 1 : 0);
      return super.visitMethod(tree, none);
    }

    @Override
    public Void visitClass(ClassTree tree, Void none) {
      classes++;
      DUE.is("line " + line(tree) + " is no local class", enclosing(Tree.Kind.METHOD) == null ? 1 : 0, 1);
      int fields = 0;
      for (Tree member : tree.getMembers()) {
        if (member.getKind() == Tree.Kind.BLOCK) never(member);
        if (member instanceof VariableTree) {
          Set<javax.lang.model.element.Modifier> flags = ((VariableTree) member).getModifiers().getFlags();
          boolean isStatic = flags.contains(javax.lang.model.element.Modifier.STATIC);
          boolean isFinal = flags.contains(javax.lang.model.element.Modifier.FINAL);
          if (!isStatic) fields++;
          DUE.is("line " + line(member) + " is final if it is static", isStatic && !isFinal ? 0 : 1, 1);
        }
      }
      within("fields of " + tree.getSimpleName(), fields, 20);
      return super.visitClass(tree, none);
    }

    @Override
    public Void visitImport(ImportTree tree, Void none) {
      DUE.same("line " + line(tree), tree.getQualifiedIdentifier().toString(), "java.util.Arrays");
      return super.visitImport(tree, none);
    }

    @Override
    public Void visitForLoop(ForLoopTree tree, Void none) {
      DUE.is("line " + line(tree) + ": a loop that begins, ends and steps",
          tree.getInitializer().size() == 1 && tree.getCondition() != null && tree.getUpdate().size() == 1 ? 1 : 0, 1);
      return super.visitForLoop(tree, none);
    }

    @Override
    public Void visitTypeCast(TypeCastTree tree, Void none) {
      if (!(tree.getType() instanceof PrimitiveTypeTree)) never(tree);
      return super.visitTypeCast(tree, none);
    }

    @Override
    public Void visitPrimitiveType(PrimitiveTypeTree tree, Void none) {
      if (tree.getPrimitiveTypeKind() == TypeKind.DOUBLE || tree.getPrimitiveTypeKind() == TypeKind.FLOAT) never(tree);
      return super.visitPrimitiveType(tree, none);
    }

    @Override
    public Void visitLiteral(LiteralTree tree, Void none) {
      if (tree.getKind() == Tree.Kind.STRING_LITERAL || tree.getKind() == Tree.Kind.NULL_LITERAL) never(tree);
      return super.visitLiteral(tree, none);
    }

    @Override
    public Void visitTry(TryTree tree, Void none) {
      return never(tree);
    }

    @Override
    public Void visitThrow(ThrowTree tree, Void none) {
      return never(tree);
    }

    @Override
    public Void visitLambdaExpression(LambdaExpressionTree tree, Void none) {
      return never(tree);
    }

    @Override
    public Void visitMemberReference(MemberReferenceTree tree, Void none) {
      return never(tree);
    }

    @Override
    public Void visitSynchronized(SynchronizedTree tree, Void none) {
      return never(tree);
    }

    @Override
    public Void visitAssert(AssertTree tree, Void none) {
      return never(tree);
    }

    @Override
    public Void visitInstanceOf(InstanceOfTree tree, Void none) {
      return never(tree);
    }

    @Override
    public Void visitWhileLoop(WhileLoopTree tree, Void none) {
      return never(tree);
    }

    @Override
    public Void visitEnhancedForLoop(EnhancedForLoopTree tree, Void none) {
      return never(tree);
    }

    @Override
    public Void visitMemberSelect(MemberSelectTree tree, Void none) {
      if (tree.toString().startsWith("java.") && enclosing(Tree.Kind.IMPORT) == null) never(tree);
      return super.visitMemberSelect(tree, none);
    }
  }
}
