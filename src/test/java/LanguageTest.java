import com.sun.source.tree.AssertTree;
import com.sun.source.tree.BinaryTree;
import com.sun.source.tree.ClassTree;
import com.sun.source.tree.CompilationUnitTree;
import com.sun.source.tree.LambdaExpressionTree;
import com.sun.source.tree.LineMap;
import com.sun.source.tree.LiteralTree;
import com.sun.source.tree.MemberReferenceTree;
import com.sun.source.tree.MethodInvocationTree;
import com.sun.source.tree.MethodTree;
import com.sun.source.tree.NewArrayTree;
import com.sun.source.tree.NewClassTree;
import com.sun.source.tree.SynchronizedTree;
import com.sun.source.tree.ThrowTree;
import com.sun.source.tree.Tree;
import com.sun.source.tree.TryTree;
import com.sun.source.tree.TypeCastTree;
import com.sun.source.tree.VariableTree;
import com.sun.source.util.JavacTask;
import com.sun.source.util.SourcePositions;
import com.sun.source.util.TreePath;
import com.sun.source.util.TreePathScanner;
import com.sun.source.util.Trees;
import java.io.IOException;
import java.lang.reflect.Method;
import java.lang.reflect.Modifier;
import java.nio.file.Files;
import java.nio.file.Path;
import java.util.ArrayList;
import java.util.HashMap;
import java.util.HashSet;
import java.util.List;
import java.util.Map;
import java.util.Set;
import java.util.TreeSet;
import java.util.regex.Matcher;
import java.util.regex.Pattern;
import javax.lang.model.element.Element;
import javax.tools.JavaCompiler;
import javax.tools.StandardJavaFileManager;
import javax.tools.ToolProvider;

/** The rules of LANGUAGE.md that the source itself can be asked about. */
public final class LanguageTest {
  private static final Path SOURCE = Path.of("src/main/java/DownAmongFences.java");
  private static final Path DOCUMENT = Path.of("../shared/DOC.md");
  private static final Check check = new Check();

  public static void main(String[] args) throws IOException {
    face();
    source();
    check.end();
  }

  /** Rule 1: the public face is the document's, and nothing else is seen from outside. */
  private static void face() throws IOException {
    Set<String> due = new TreeSet<>();
    Matcher m = Pattern.compile("(?m)^    public (int|long) (\\w+)\\((.*)\\);$").matcher(Files.readString(DOCUMENT));
    while (m.find()) {
      due.add(m.group(1) + " " + m.group(2) + "(" + m.group(3).replaceAll("(int|long) \\w+", "$1") + ")");
    }
    Set<String> is = new TreeSet<>();
    for (Method method : DownAmongFences.class.getDeclaredMethods()) {
      if (Modifier.isPrivate(method.getModifiers()) || method.isSynthetic()) {
        continue;
      }
      List<String> parameters = new ArrayList<>();
      for (Class<?> type : method.getParameterTypes()) {
        parameters.add(type.getName());
      }
      is.add(method.getReturnType().getName() + " " + method.getName() + "(" + String.join(", ", parameters) + ")");
      check.holds("1: public, no static: " + method, method.getModifiers() == Modifier.PUBLIC);
    }
    check.is("1: methods of the document", due.size(), 47);
    check.holds("1: the face " + is, is.equals(due));
    check.is("1: constructors", DownAmongFences.class.getConstructors().length, 1);
    check.is("1: constructors in all", DownAmongFences.class.getDeclaredConstructors().length, 1);
    check.is("1: public and final", DownAmongFences.class.getModifiers(), Modifier.PUBLIC | Modifier.FINAL);
    for (var field : DownAmongFences.class.getDeclaredFields()) {
      check.holds("1: private: " + field, Modifier.isPrivate(field.getModifiers()));
    }
    for (var inner : DownAmongFences.class.getDeclaredClasses()) {
      check.holds("2: static: " + inner, Modifier.isStatic(inner.getModifiers()));
    }
  }

  private static void source() throws IOException {
    JavaCompiler compiler = ToolProvider.getSystemJavaCompiler();
    try (StandardJavaFileManager files = compiler.getStandardFileManager(null, null, null)) {
      JavacTask task = (JavacTask) compiler.getTask(null, files, null, null, null, files.getJavaFileObjects(SOURCE));
      CompilationUnitTree unit = task.parse().iterator().next();
      task.analyze();
      Reader reader = new Reader(Trees.instance(task), unit);
      check.is("1: classes of the file", unit.getTypeDecls().size(), 1);
      check.is("4: imports", unit.getImports().size(), 0);
      check.holds("1: no package", unit.getPackage() == null);
      reader.scan(unit, null);
      check.holds("11: classes " + reader.classes, reader.classes <= 12);
      for (String method : reader.calls.keySet()) {
        int depth = reader.depth(method, new HashSet<>());
        check.holds("11: calls go " + depth + " deep from " + method, depth <= 8);
      }
      for (String name : reader.privateNames) {
        check.holds("1: no hidden " + name, !reader.publicNames.contains(name));
      }
    }
    for (char c : Files.readString(SOURCE).toCharArray()) {
      if (c > 126) {
        check.holds("5: signs", false);
      }
    }
  }

  private static final class Reader extends TreePathScanner<Void, Void> {
    private final Trees trees;
    private final CompilationUnitTree unit;
    private final SourcePositions places;
    private final LineMap lines;
    final Map<String, Set<String>> calls = new HashMap<>();
    final Set<String> publicNames = new HashSet<>();
    final Set<String> privateNames = new HashSet<>();
    int classes;
    private String in = "";
    private boolean making = true;

    Reader(Trees trees, CompilationUnitTree unit) {
      this.trees = trees;
      this.unit = unit;
      this.places = trees.getSourcePositions();
      this.lines = unit.getLineMap();
    }

    /** How many methods stand open at once; a method within itself is told as a hundred. */
    int depth(String method, Set<String> open) {
      if (!open.add(method)) {
        return 100;
      }
      int deepest = 0;
      for (String called : calls.getOrDefault(method, Set.of())) {
        deepest = Math.max(deepest, depth(called, open));
      }
      open.remove(method);
      return 1 + deepest;
    }

    private void none(String rule, Tree tree) {
      check.holds(rule + " at line " + lines.getLineNumber(places.getStartPosition(unit, tree)), false);
    }

    @Override
    public Void visitClass(ClassTree tree, Void v) {
      classes++;
      int fields = 0;
      for (Tree member : tree.getMembers()) {
        if (member instanceof VariableTree) {
          Set<javax.lang.model.element.Modifier> flags = ((VariableTree) member).getModifiers().getFlags();
          boolean isStatic = flags.contains(javax.lang.model.element.Modifier.STATIC);
          check.holds("5: " + member, !isStatic || flags.contains(javax.lang.model.element.Modifier.FINAL));
          fields += isStatic ? 0 : 1;
        }
        check.holds("5: no block of " + tree.getSimpleName(), member.getKind() != Tree.Kind.BLOCK);
      }
      check.holds("11: fields of " + tree.getSimpleName() + " " + fields, fields <= 20);
      return super.visitClass(tree, v);
    }

    @Override
    public Void visitMethod(MethodTree tree, Void v) {
      Set<javax.lang.model.element.Modifier> flags = tree.getModifiers().getFlags();
      boolean isPublic = flags.contains(javax.lang.model.element.Modifier.PUBLIC);
      (isPublic ? publicNames : privateNames).add(tree.getName().toString());
      privateNames.remove("<init>");
      long first = lines.getLineNumber(places.getStartPosition(unit, tree));
      long last = lines.getLineNumber(places.getEndPosition(unit, tree));
      check.holds("11: lines of " + tree.getName() + " " + (last - first), last - first < 60);
      check.holds("11: parameters of " + tree.getName(), tree.getParameters().size() <= 7);
      making = tree.getReturnType() == null;
      in = nameOf(trees.getElement(getCurrentPath()));
      calls.computeIfAbsent(in, k -> new HashSet<>());
      super.visitMethod(tree, v);
      making = true;
      in = "";
      return null;
    }

    private static String nameOf(Element method) {
      return method.getEnclosingElement() + "." + method;
    }

    @Override
    public Void visitMethodInvocation(MethodInvocationTree tree, Void v) {
      Element called = trees.getElement(new TreePath(getCurrentPath(), tree.getMethodSelect()));
      String name = nameOf(called);
      if (name.startsWith("DownAmongFences")) {
        calls.get(in).add(name);
      } else {
        check.holds("4: " + name, name.startsWith("java.lang.Math.") || called.getSimpleName().contentEquals("<init>"));
      }
      return super.visitMethodInvocation(tree, v);
    }

    @Override
    public Void visitNewClass(NewClassTree tree, Void v) {
      check.holds("12: " + tree + " only while an object is made", making);
      check.holds("2: no anonymous " + tree, tree.getClassBody() == null);
      return super.visitNewClass(tree, v);
    }

    @Override
    public Void visitNewArray(NewArrayTree tree, Void v) {
      check.holds("12: " + tree + " only while an object is made", making);
      return super.visitNewArray(tree, v);
    }

    @Override
    public Void visitBinary(BinaryTree tree, Void v) {
      if (tree.getKind() == Tree.Kind.DIVIDE || tree.getKind() == Tree.Kind.REMAINDER) {
        String by = tree.getRightOperand().toString();
        check.holds("7: divided by " + by, by.matches("[1-9][0-9]*|LAYER_HEIGHT|TAKEN_BACK|shared|other"));
      }
      return super.visitBinary(tree, v);
    }

    @Override
    public Void visitLiteral(LiteralTree tree, Void v) {
      check.holds("10: no text " + tree, tree.getKind() != Tree.Kind.STRING_LITERAL);
      return super.visitLiteral(tree, v);
    }

    @Override
    public Void visitTry(TryTree tree, Void v) {
      none("6: try", tree);
      return super.visitTry(tree, v);
    }

    @Override
    public Void visitThrow(ThrowTree tree, Void v) {
      none("6: throw", tree);
      return super.visitThrow(tree, v);
    }

    @Override
    public Void visitAssert(AssertTree tree, Void v) {
      none("6: assert", tree);
      return super.visitAssert(tree, v);
    }

    @Override
    public Void visitSynchronized(SynchronizedTree tree, Void v) {
      none("6: synchronized", tree);
      return super.visitSynchronized(tree, v);
    }

    @Override
    public Void visitLambdaExpression(LambdaExpressionTree tree, Void v) {
      none("2: lambda", tree);
      return super.visitLambdaExpression(tree, v);
    }

    @Override
    public Void visitMemberReference(MemberReferenceTree tree, Void v) {
      none("2: method reference", tree);
      return super.visitMemberReference(tree, v);
    }

    @Override
    public Void visitTypeCast(TypeCastTree tree, Void v) {
      none("7: cast", tree);
      return super.visitTypeCast(tree, v);
    }
  }
}
