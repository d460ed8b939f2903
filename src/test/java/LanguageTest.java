import com.sun.source.tree.ClassTree;
import com.sun.source.tree.CompilationUnitTree;
import com.sun.source.tree.ExpressionTree;
import com.sun.source.tree.IdentifierTree;
import com.sun.source.tree.LineMap;
import com.sun.source.tree.MemberSelectTree;
import com.sun.source.tree.MethodInvocationTree;
import com.sun.source.tree.MethodTree;
import com.sun.source.tree.NewArrayTree;
import com.sun.source.tree.NewClassTree;
import com.sun.source.tree.Tree;
import com.sun.source.tree.VariableTree;
import com.sun.source.util.JavacTask;
import com.sun.source.util.SourcePositions;
import com.sun.source.util.TreeScanner;
import com.sun.source.util.Trees;
import java.io.IOException;
import java.nio.file.Path;
import java.util.ArrayDeque;
import java.util.Deque;
import java.util.EnumSet;
import java.util.Map;
import java.util.Set;
import java.util.TreeMap;
import java.util.TreeSet;
import javax.lang.model.element.Modifier;
import javax.tools.JavaCompiler;
import javax.tools.StandardJavaFileManager;
import javax.tools.ToolProvider;

/** The rules of LANGUAGE.md that can be read off the source. */
public final class LanguageTest extends TreeScanner<Void, Void> {
    private static final Set<Tree.Kind> RULED_OUT = EnumSet.of(
        Tree.Kind.LAMBDA_EXPRESSION, Tree.Kind.MEMBER_REFERENCE, Tree.Kind.THROW, Tree.Kind.TRY, Tree.Kind.CATCH,
        Tree.Kind.SYNCHRONIZED, Tree.Kind.ASSERT, Tree.Kind.IMPORT, Tree.Kind.PACKAGE);
    private static final Set<String> LIBRARY =
        Set.of("System.arraycopy", "Arrays.copyOf", "Arrays.copyOfRange", "Arrays.fill", "List.of");
    private static final Set<String> OF_NUMBERS = Set.of("Integer", "Long", "Math");
    private static final String CONSTRUCTOR = "<init>";

    private final Check check = new Check();
    private final CompilationUnitTree unit;
    private final SourcePositions positions;
    private final Deque<String> classes = new ArrayDeque<>();
    private final Map<String, Set<String>> callsByMethod = new TreeMap<>();
    private String method;
    private int classCount;

    private LanguageTest(CompilationUnitTree unit, SourcePositions positions) {
        this.unit = unit;
        this.positions = positions;
    }

    public static void main(String[] args) throws IOException {
        JavaCompiler compiler = ToolProvider.getSystemJavaCompiler();
        try (StandardJavaFileManager files = compiler.getStandardFileManager(null, null, null)) {
            JavacTask task = (JavacTask) compiler.getTask(null, files, null, null, null,
                files.getJavaFileObjects(Path.of("src/main/java/ReplayDesk.java")));
            for (CompilationUnitTree unit : task.parse()) {
                LanguageTest test = new LanguageTest(unit, Trees.instance(task).getSourcePositions());
                test.scan(unit, null);
                test.finish();
            }
        }
    }

    private void finish() {
        check.due("at most twelve classes", classCount <= 12, true);
        for (String name : callsByMethod.keySet()) {
            int depth = depthFrom(name, new TreeSet<>());
            check.due("calls from " + name + " go " + depth + " deep, at most eight", depth <= 8, true);
        }
        check.finish();
    }

    // Methods are told apart by their names alone, so a name that two classes share counts for both:
    // what is found can be too deep, never too shallow.
    private int depthFrom(String name, Set<String> open) {
        if (!open.add(name)) {
            check.due("no recursion through " + name, false, true);
            return 1;
        }
        int deepest = 0;
        for (String called : callsByMethod.get(name)) {
            if (callsByMethod.containsKey(called)) {
                deepest = Math.max(deepest, depthFrom(called, open));
            }
        }
        open.remove(name);
        return deepest + 1;
    }

    @Override
    public Void scan(Tree tree, Void none) {
        if (tree != null) {
            check.due("line " + lineOf(positions.getStartPosition(unit, tree)) + ": " + tree.getKind() + " is ruled out",
                RULED_OUT.contains(tree.getKind()), false);
        }
        return super.scan(tree, none);
    }

    @Override
    public Void visitClass(ClassTree tree, Void none) {
        String name = tree.getSimpleName().toString();
        Set<Modifier> modifiers = tree.getModifiers().getFlags();
        check.due("no local class: " + name, method == null, true);
        check.due("static inside: " + name, classes.isEmpty() || modifiers.contains(Modifier.STATIC), true);
        check.due("nothing stands above it: " + name, tree.getExtendsClause() == null, true);
        classCount++;
        int fields = 0;
        for (Tree member : tree.getMembers()) {
            check.due("no block in " + name, member.getKind() == Tree.Kind.BLOCK, false);
            fields += member instanceof VariableTree field && !isStatic(field) ? 1 : 0;
        }
        check.due("at most twenty fields in " + name, fields <= 20, true);
        classes.push(name);
        super.visitClass(tree, none);
        classes.pop();
        return null;
    }

    @Override
    public Void visitMethod(MethodTree tree, Void none) {
        method = tree.getName().toString();
        callsByMethod.putIfAbsent(method, new TreeSet<>());
        long lines = lineOf(positions.getEndPosition(unit, tree)) - lineOf(positions.getStartPosition(unit, tree)) + 1;
        check.due(method + " has at most sixty lines", lines <= 60, true);
        check.due(method + " has at most seven parameters", tree.getParameters().size() <= 7, true);
        super.visitMethod(tree, none);
        method = null;
        return null;
    }

    @Override
    public Void visitVariable(VariableTree tree, Void none) {
        if (method == null && isStatic(tree)) {
            check.due("final: " + tree.getName(), tree.getModifiers().getFlags().contains(Modifier.FINAL), true);
        }
        return super.visitVariable(tree, none);
    }

    @Override
    public Void visitMethodInvocation(MethodInvocationTree tree, Void none) {
        ExpressionTree called = tree.getMethodSelect();
        String name = called instanceof MemberSelectTree member ? member.getIdentifier().toString() : called.toString();
        callsByMethod.get(method).add(name);
        if (called instanceof MemberSelectTree member && member.getExpression() instanceof IdentifierTree owner
            && Character.isUpperCase(owner.getName().charAt(0))) {
            boolean ofNumbers = OF_NUMBERS.contains(owner.toString()) && !name.endsWith("Exact");
            check.due(called + " is in the library", ofNumbers || LIBRARY.contains(called.toString()), true);
        }
        return super.visitMethodInvocation(tree, none);
    }

    @Override
    public Void visitNewClass(NewClassTree tree, Void none) {
        madeInConstructor(tree);
        check.due("no anonymous class", tree.getClassBody() == null, true);
        return super.visitNewClass(tree, none);
    }

    @Override
    public Void visitNewArray(NewArrayTree tree, Void none) {
        madeInConstructor(tree);
        return super.visitNewArray(tree, none);
    }

    // All calls of a run share one room, so no call but a constructor takes any of it.
    private void madeInConstructor(Tree made) {
        check.due(made + " is made in a constructor", method == null || method.equals(CONSTRUCTOR), true);
    }

    private static boolean isStatic(VariableTree tree) {
        return tree.getModifiers().getFlags().contains(Modifier.STATIC);
    }

    private long lineOf(long position) {
        LineMap lines = unit.getLineMap();
        return position < 0 ? 0 : lines.getLineNumber(position);
    }
}
