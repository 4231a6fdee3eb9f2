import com.sun.source.tree.BinaryTree;
import com.sun.source.tree.ClassTree;
import com.sun.source.tree.CompilationUnitTree;
import com.sun.source.tree.DoWhileLoopTree;
import com.sun.source.tree.ForLoopTree;
import com.sun.source.tree.MethodInvocationTree;
import com.sun.source.tree.MethodTree;
import com.sun.source.tree.NewArrayTree;
import com.sun.source.tree.NewClassTree;
import com.sun.source.tree.Tree;
import com.sun.source.tree.TypeCastTree;
import com.sun.source.tree.WhileLoopTree;
import com.sun.source.util.JavacTask;
import com.sun.source.util.TreePath;
import com.sun.source.util.TreePathScanner;
import com.sun.source.util.Trees;
import java.nio.file.Path;
import java.util.ArrayDeque;
import java.util.ArrayList;
import java.util.Deque;
import java.util.HashMap;
import java.util.HashSet;
import java.util.List;
import java.util.Map;
import java.util.Set;
import java.util.TreeMap;
import java.util.TreeSet;
import javax.lang.model.element.ElementKind;
import javax.lang.model.element.ExecutableElement;
import javax.lang.model.element.VariableElement;
import javax.lang.model.type.TypeMirror;
import javax.tools.JavaCompiler;
import javax.tools.StandardJavaFileManager;
import javax.tools.ToolProvider;

/** Rules of LANGUAGE.md that hang on what the compiler makes of the source, not on how it is written. */
public final class TreesTest extends TreePathScanner<Void, Void> {
    private static final Checks C = new Checks();
    private static final int DEEPEST_CALLS = 8;

    private static final Set<Tree.Kind> RULED_OUT = Set.of(Tree.Kind.LAMBDA_EXPRESSION, Tree.Kind.MEMBER_REFERENCE,
        Tree.Kind.THROW, Tree.Kind.TRY, Tree.Kind.SYNCHRONIZED, Tree.Kind.ASSERT, Tree.Kind.SWITCH_EXPRESSION,
        Tree.Kind.ANNOTATION, Tree.Kind.BINDING_PATTERN);

    private static final Set<String> LIBRARY = Set.of("java.lang.String.length()", "java.lang.String.charAt(int)",
        "java.lang.String.indexOf(int)", "java.lang.System.arraycopy(java.lang.Object,int,java.lang.Object,int,int)",
        "java.util.Arrays.fill(int[],int)", "java.util.Arrays.fill(long[],long)", "java.lang.Math.max(int,int)",
        "java.lang.Math.min(int,int)", "java.lang.Math.max(long,long)", "java.lang.Math.min(long,long)",
        "java.lang.Integer.bitCount(int)", "java.lang.Integer.numberOfTrailingZeros(int)");

    /** The only methods that call themselves, by themselves or by one another; each carries its depth. */
    private static final Set<String> RECURSIVE = Set.of("Reader.readTruth", "Reader.readBoth", "Reader.readUnit",
        "Reader.readSum", "Reader.readTerm", "Reader.readAtom", "Weeks.tryBest", "Weeks.tryGood");

    private final Trees trees;
    private final Map<String, Set<String>> calls = new TreeMap<>();
    private final Map<String, Set<String>> parameters = new HashMap<>();
    private String method = "";
    private boolean making = false;

    private TreesTest(Trees trees) {
        this.trees = trees;
    }

    public static void main(String[] args) throws Exception {
        JavaCompiler compiler = ToolProvider.getSystemJavaCompiler();
        try (StandardJavaFileManager files = compiler.getStandardFileManager(null, null, null)) {
            JavacTask task = (JavacTask) compiler.getTask(null, files, null, List.of("-proc:none"), null,
                files.getJavaFileObjects(Path.of("src/main/java/MovedSpan.java")));
            List<CompilationUnitTree> units = new ArrayList<>();
            task.parse().forEach(units::add);
            task.analyze();
            TreesTest test = new TreesTest(Trees.instance(task));
            for (CompilationUnitTree unit : units) {
                test.scan(new TreePath(unit), null);
            }
            test.callsGo();
        }
        C.end("TreesTest");
    }

    @Override
    public Void scan(Tree tree, Void nothing) {
        if (tree != null) {
            C.topic("rules 2, 6");
            C.holds(tree.getKind() + " in " + method, !RULED_OUT.contains(tree.getKind()));
        }
        return super.scan(tree, nothing);
    }

    @Override
    public Void visitClass(ClassTree tree, Void nothing) {
        C.topic("rule 2");
        C.holds(tree.getSimpleName() + " is no local or anonymous class", method.isEmpty());
        return super.visitClass(tree, nothing);
    }

    @Override
    public Void visitMethod(MethodTree tree, Void nothing) {
        ExecutableElement element = (ExecutableElement) trees.getElement(getCurrentPath());
        method = name(element);
        making = element.getKind() == ElementKind.CONSTRUCTOR;
        calls.computeIfAbsent(method, k -> new TreeSet<>());
        Set<String> names = new HashSet<>();
        for (VariableElement parameter : element.getParameters()) {
            names.add(parameter.getSimpleName().toString());
        }
        parameters.put(method, names);
        super.visitMethod(tree, nothing);
        method = "";
        making = false;
        return null;
    }

    @Override
    public Void visitMethodInvocation(MethodInvocationTree tree, Void nothing) {
        ExecutableElement called = (ExecutableElement) trees.getElement(getCurrentPath());
        String owner = called.getEnclosingElement().toString();
        if (owner.startsWith("MovedSpan")) {
            C.topic("rule 12");
            C.holds(method + " calls no method while an object is made", !making);
            calls.computeIfAbsent(method, k -> new TreeSet<>()).add(name(called));
        } else if (called.getKind() != ElementKind.CONSTRUCTOR) {
            C.topic("rule 4");
            C.holds(owner + "." + called + " in " + method + " is in the library", LIBRARY.contains(owner + "." + called));
        }
        return super.visitMethodInvocation(tree, nothing);
    }

    @Override
    public Void visitNewClass(NewClassTree tree, Void nothing) {
        isMadeWithTheObject(tree);
        return super.visitNewClass(tree, nothing);
    }

    @Override
    public Void visitNewArray(NewArrayTree tree, Void nothing) {
        isMadeWithTheObject(tree);
        return super.visitNewArray(tree, nothing);
    }

    private void isMadeWithTheObject(Tree tree) {
        C.topic("rule 12");
        C.holds(tree + " in " + method + " is made with the object", method.isEmpty() || making);
    }

    @Override
    public Void visitBinary(BinaryTree tree, Void nothing) {
        TypeMirror left = trees.getTypeMirror(new TreePath(getCurrentPath(), tree.getLeftOperand()));
        TypeMirror right = trees.getTypeMirror(new TreePath(getCurrentPath(), tree.getRightOperand()));
        C.topic("rules 3, 6, 10");
        C.holds(tree + " is of whole numbers or truths", left.getKind().isPrimitive() && right.getKind().isPrimitive()
            && !(left + " " + right).matches(".*(double|float).*"));
        if (tree.getKind() == Tree.Kind.DIVIDE || tree.getKind() == Tree.Kind.REMAINDER) {
            divides(tree);
        }
        return super.visitBinary(tree, nothing);
    }

    /** A divisor is a constant, or one of those whose tests stand ahead of them. */
    private void divides(BinaryTree tree) {
        String divisor = tree.getRightOperand().toString();
        C.topic("rule 7");
        C.holds(tree + " in " + method + " divides by what was looked at", divisor.matches("[1-9]\\d*|[A-Z_]+")
            || Set.of("River.hourOfWeek hours", "State.doYear river.people", "Chances.sharedDivisor b",
                "MovedSpan.chance shared").contains(method + " " + divisor));
    }

    @Override
    public Void visitTypeCast(TypeCastTree tree, Void nothing) {
        C.topic("rule 7");
        C.holds(tree + " is a cast among numbers", trees.getTypeMirror(getCurrentPath()).getKind().isPrimitive());
        return super.visitTypeCast(tree, nothing);
    }

    @Override
    public Void visitForLoop(ForLoopTree tree, Void nothing) {
        C.topic("rule 9");
        C.holds("a for in " + method + " has a bound and a counter", tree.getCondition() != null
            && tree.getInitializer().size() == 1 && tree.getUpdate().size() == 1);
        return super.visitForLoop(tree, nothing);
    }

    @Override
    public Void visitWhileLoop(WhileLoopTree tree, Void nothing) {
        C.topic("rule 9");
        C.holds("a while in " + method + " has a counter against a bound", method.equals("Tokens.endOf"));
        return super.visitWhileLoop(tree, nothing);
    }

    @Override
    public Void visitDoWhileLoop(DoWhileLoopTree tree, Void nothing) {
        C.topic("rule 9");
        C.holds("no do in " + method, false);
        return super.visitDoWhileLoop(tree, nothing);
    }

    private static String name(ExecutableElement element) {
        return element.getEnclosingElement().getSimpleName() + "." + element.getSimpleName();
    }

    private void callsGo() {
        C.topic("rule 8");
        Set<String> turning = new TreeSet<>();
        for (String one : calls.keySet()) {
            if (reached(one).contains(one)) {
                turning.add(one);
                C.holds(one + " carries its depth", parameters.get(one).contains("depth"));
            }
        }
        C.holds("methods that call themselves: " + turning, turning.equals(new TreeSet<>(RECURSIVE)));
        C.topic("rule 11");
        for (String one : calls.keySet()) {
            List<String> chain = longest(one);
            C.holds(chain + " is at most " + DEEPEST_CALLS + " deep", chain.size() <= DEEPEST_CALLS);
        }
    }

    private Set<String> reached(String from) {
        Set<String> all = new HashSet<>();
        Deque<String> open = new ArrayDeque<>(calls.getOrDefault(from, Set.of()));
        while (!open.isEmpty()) {
            String one = open.pop();
            if (all.add(one)) {
                open.addAll(calls.getOrDefault(one, Set.of()));
            }
        }
        return all;
    }

    /** The longest chain of calls; those that call one another count as one. */
    private List<String> longest(String from) {
        Set<String> round = new TreeSet<>(Set.of(from));
        for (String one : reached(from)) {
            if (reached(one).contains(from)) {
                round.add(one);
            }
        }
        List<String> most = new ArrayList<>();
        for (String one : round) {
            for (String next : calls.getOrDefault(one, Set.of())) {
                List<String> chain = round.contains(next) ? List.of() : longest(next);
                most = chain.size() > most.size() ? chain : most;
            }
        }
        List<String> all = new ArrayList<>(List.of(String.join("/", round)));
        all.addAll(most);
        return all;
    }
}
