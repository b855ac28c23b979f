import com.sun.source.tree.AssertTree;
import com.sun.source.tree.BlockTree;
import com.sun.source.tree.ClassTree;
import com.sun.source.tree.CompilationUnitTree;
import com.sun.source.tree.ExpressionTree;
import com.sun.source.tree.IdentifierTree;
import com.sun.source.tree.ImportTree;
import com.sun.source.tree.LambdaExpressionTree;
import com.sun.source.tree.LiteralTree;
import com.sun.source.tree.MemberReferenceTree;
import com.sun.source.tree.MemberSelectTree;
import com.sun.source.tree.MethodInvocationTree;
import com.sun.source.tree.MethodTree;
import com.sun.source.tree.NewArrayTree;
import com.sun.source.tree.NewClassTree;
import com.sun.source.tree.SynchronizedTree;
import com.sun.source.tree.ThrowTree;
import com.sun.source.tree.Tree;
import com.sun.source.tree.TryTree;
import com.sun.source.tree.VariableTree;
import com.sun.source.util.JavacTask;
import com.sun.source.util.SourcePositions;
import com.sun.source.util.TreeScanner;
import com.sun.source.util.Trees;
import java.io.File;
import java.nio.file.Path;
import java.util.ArrayDeque;
import java.util.Deque;
import java.util.HashMap;
import java.util.LinkedHashSet;
import java.util.Map;
import java.util.Set;
import javax.lang.model.element.Modifier;
import javax.tools.JavaCompiler;
import javax.tools.StandardJavaFileManager;
import javax.tools.ToolProvider;

/**
 * The class's source keeps to LANGUAGE.md, as far as a look at its tree can tell. Where the class
 * uses less than a rule leaves (no recursion, no try, no import), the test asks for that.
 */
public final class LanguageTest extends TreeScanner<Void, Void> {
    private static final Path PLACE = Path.of("src/main/java");
    private static final Set<String> LIBRARY = Set.of("System.arraycopy", "Math.floorMod", "Integer.rotateRight");
    private static final Set<String> EXCEPTIONS = Set.of("IllegalStateException", "IllegalArgumentException",
            "IndexOutOfBoundsException", "UnsupportedOperationException");
    private static final Set<String> TYPES = Set.of("int", "long", "boolean", "int[]", "int[][]", "boolean[]",
            "Sha256", "void");
    private static final int MOST_PARAMETERS = 7;
    private static final int MOST_LINES = 60;
    private static final int MOST_CLASSES = 12;
    private static final int MOST_FIELDS = 20;
    private static final int DEEPEST = 8;

    private final Due due = new Due();
    private final CompilationUnitTree unit;
    private final SourcePositions positions;
    private final Map<String, Set<String>> calls = new HashMap<>();
    private final Deque<MethodTree> inside = new ArrayDeque<>();
    private int classes = 0;

    private LanguageTest(CompilationUnitTree unit, SourcePositions positions) {
        this.unit = unit;
        this.positions = positions;
    }

    public static void main(String[] args) throws Exception {
        File[] files = PLACE.toFile().listFiles();
        JavaCompiler compiler = ToolProvider.getSystemJavaCompiler();
        try (StandardJavaFileManager manager = compiler.getStandardFileManager(null, null, null)) {
            JavacTask task = (JavacTask) compiler.getTask(null, manager, null, null, null,
                    manager.getJavaFileObjects(files));
            CompilationUnitTree unit = task.parse().iterator().next();
            LanguageTest test = new LanguageTest(unit, Trees.instance(task).getSourcePositions());
            test.due.equal("files", files.length, 1);
            test.due.equal("the file", files[0].getName(), "ProofLeaves.java");
            test.look();
            test.due.end();
        }
    }

    private void look() {
        due.about("the head", "one file, without a package line");
        due.holds("no package", unit.getPackage() == null);
        due.equal("top classes", unit.getTypeDecls().size(), 1);
        scan(unit, null);
        due.about("rule 11", "the file has at most some twelve classes");
        due.holds(classes + " classes", classes <= MOST_CLASSES);
        for (String method : calls.keySet()) {
            due.about("rules 8 and 11", "calls that are no recursion go at most eight deep");
            int deep = depth(method, new LinkedHashSet<>());
            due.holds(method + " goes " + deep + " deep", deep <= DEEPEST);
        }
    }

    private int depth(String method, Set<String> open) {
        if (!open.add(method)) {
            due.equal("recursion", open + " " + method, "none");
            return 0;
        }
        int deepest = 0;
        for (String called : calls.getOrDefault(method, Set.of())) {
            deepest = Math.max(deepest, depth(called, open));
        }
        open.remove(method);
        return 1 + deepest;
    }

    private void none(String rule, Tree tree) {
        due.about(rule, "nothing of this kind");
        due.equal("line " + line(positions.getStartPosition(unit, tree)), tree.getKind().toString(), "none");
    }

    private long line(long position) {
        return unit.getLineMap().getLineNumber(position);
    }

    private boolean inConstructor() {
        return !inside.isEmpty() && inside.peek().getReturnType() == null;
    }

    @Override
    public Void visitImport(ImportTree tree, Void nothing) {
        none("rule 4", tree);
        return null;
    }

    @Override
    public Void visitClass(ClassTree tree, Void nothing) {
        classes++;
        int fields = 0;
        due.about("rule 2", "static nested classes, none that captures a variable");
        due.holds(tree.getSimpleName() + " is in no method", inside.isEmpty());
        due.holds(tree.getSimpleName() + " is the face or static", classes == 1
                || tree.getModifiers().getFlags().contains(Modifier.STATIC));
        for (Tree member : tree.getMembers()) {
            if (member instanceof BlockTree) {
                none("rule 5", member);
            }
            if (member instanceof VariableTree field) {
                Set<Modifier> flags = field.getModifiers().getFlags();
                due.about("rule 5", "Static fields are final");
                due.holds(field.getName() + "", !flags.contains(Modifier.STATIC) || flags.contains(Modifier.FINAL));
                fields += flags.contains(Modifier.STATIC) ? 0 : 1;
            }
        }
        due.about("rule 11", "a class some twenty fields beside its constants");
        due.holds(tree.getSimpleName() + " has " + fields, fields <= MOST_FIELDS);
        return super.visitClass(tree, nothing);
    }

    @Override
    public Void visitMethod(MethodTree tree, Void nothing) {
        String name = tree.getName().toString();
        due.about("rule 11", "A method takes at most seven parameters. Methods stay short (some sixty lines)");
        due.holds(name + " takes " + tree.getParameters().size(), tree.getParameters().size() <= MOST_PARAMETERS);
        long lines = 1 + line(positions.getEndPosition(unit, tree)) - line(positions.getStartPosition(unit, tree));
        due.holds(name + " has " + lines + " lines", lines <= MOST_LINES);
        if (tree.getReturnType() != null) {
            due.about("rule 1", "No private method bears the name of a public one, and here no two bear one");
            due.holds(name, calls.put(name, new LinkedHashSet<>()) == null);
            type(name, tree.getReturnType());
        }
        inside.push(tree);
        super.visitMethod(tree, nothing);
        inside.pop();
        return null;
    }

    @Override
    public Void visitVariable(VariableTree tree, Void nothing) {
        String type = tree.getType().toString();
        if (!type.equals("String")) {
            type(tree.getName().toString(), tree.getType());
        }
        return super.visitVariable(tree, nothing);
    }

    private void type(String what, Tree type) {
        due.about("rule 3", "Types");
        due.holds(what + " is " + type, TYPES.contains(type.toString()));
    }

    @Override
    public Void visitMethodInvocation(MethodInvocationTree tree, Void nothing) {
        ExpressionTree method = tree.getMethodSelect();
        String called = method.toString();
        if (method instanceof MemberSelectTree select) {
            called = select.getIdentifier().toString();
            boolean ofLibrary = Character.isUpperCase(select.getExpression().toString().charAt(0));
            due.about("rule 4", "The library: only what stands here");
            due.holds(method.toString(), ofLibrary ? LIBRARY.contains(method.toString())
                    : select.getExpression().toString().equals("sha"));
        }
        if (!inside.isEmpty() && inside.peek().getReturnType() != null) {
            calls.get(inside.peek().getName().toString()).add(called);
        } else if (!called.equals("super")) {
            none("rule 12, a constructor calls nothing here", tree);
        }
        return super.visitMethodInvocation(tree, nothing);
    }

    @Override
    public Void visitThrow(ThrowTree tree, Void nothing) {
        due.about("rule 6", "throw new E() or throw new E(\"a written text\"), no throw in a constructor");
        due.fails("a throw in a constructor", inConstructor());
        boolean isNew = tree.getExpression() instanceof NewClassTree;
        due.holds(tree.toString(), isNew && isWritten((NewClassTree) tree.getExpression()));
        // The exception is the one object that a call may make, so it is not looked at as such.
        return null;
    }

    private static boolean isWritten(NewClassTree made) {
        return made.getIdentifier() instanceof IdentifierTree && EXCEPTIONS.contains(made.getIdentifier().toString())
                && made.getArguments().size() <= 1
                && made.getArguments().stream().allMatch(text -> text instanceof LiteralTree);
    }

    @Override
    public Void visitNewClass(NewClassTree tree, Void nothing) {
        due.about("rule 12", "What a run makes is counted: here the constructor alone makes objects");
        due.holds(tree.toString(), inConstructor());
        return super.visitNewClass(tree, nothing);
    }

    @Override
    public Void visitNewArray(NewArrayTree tree, Void nothing) {
        due.about("rule 12", "What a run makes is counted: here the constructor alone makes rows");
        due.holds(tree.toString(), inConstructor() || inside.isEmpty());
        return super.visitNewArray(tree, nothing);
    }

    @Override
    public Void visitTry(TryTree tree, Void nothing) {
        none("rule 6", tree);
        return null;
    }

    @Override
    public Void visitAssert(AssertTree tree, Void nothing) {
        none("rule 6", tree);
        return null;
    }

    @Override
    public Void visitSynchronized(SynchronizedTree tree, Void nothing) {
        none("rule 6", tree);
        return null;
    }

    @Override
    public Void visitLambdaExpression(LambdaExpressionTree tree, Void nothing) {
        none("rule 2", tree);
        return null;
    }

    @Override
    public Void visitMemberReference(MemberReferenceTree tree, Void nothing) {
        none("rule 2", tree);
        return null;
    }
}
