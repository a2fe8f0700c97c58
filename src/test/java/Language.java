import com.sun.source.tree.AssertTree;
import com.sun.source.tree.BinaryTree;
import com.sun.source.tree.ClassTree;
import com.sun.source.tree.CompilationUnitTree;
import com.sun.source.tree.ImportTree;
import com.sun.source.tree.LambdaExpressionTree;
import com.sun.source.tree.MemberReferenceTree;
import com.sun.source.tree.MethodInvocationTree;
import com.sun.source.tree.MethodTree;
import com.sun.source.tree.NewArrayTree;
import com.sun.source.tree.NewClassTree;
import com.sun.source.tree.SynchronizedTree;
import com.sun.source.tree.ThrowTree;
import com.sun.source.tree.Tree;
import com.sun.source.tree.TryTree;
import com.sun.source.util.JavacTask;
import com.sun.source.util.TreePathScanner;
import com.sun.source.util.Trees;
import java.io.IOException;
import java.nio.file.Path;
import java.util.HashSet;
import java.util.LinkedHashMap;
import java.util.Map;
import java.util.Set;
import java.util.TreeSet;
import javax.lang.model.element.Element;
import javax.lang.model.element.ExecutableElement;
import javax.lang.model.element.VariableElement;
import javax.tools.JavaCompiler;
import javax.tools.StandardJavaFileManager;
import javax.tools.ToolProvider;

/** The rules of LANGUAGE.md that can be read off the program's text: what it uses, and how its methods call. */
public final class Language extends TreePathScanner<Void, Void> {
    private static final Path PROGRAM = Path.of("src/main/java/CuttingRules.java");
    // Of all that rule 4 lists the program takes these.
    private static final Set<String> LIBRARY = Set.of("java.lang.Math.max", "java.util.Arrays.fill");
    private static final int MOST_LINES = 60;
    private static final int MOST_CLASSES = 12;
    private static final int MOST_CALLS_DEEP = 8;

    private final Trees trees;
    private final CompilationUnitTree unit;
    private final Map<Element, Set<Element>> calls = new LinkedHashMap<>();
    private final Set<Element> comparing = new HashSet<>();
    private final Set<String> library = new TreeSet<>();
    private int classes = 0;
    private ExecutableElement method;

    private Language(Trees trees, CompilationUnitTree unit) {
        this.trees = trees;
        this.unit = unit;
    }

    public static void main(String[] args) throws IOException {
        JavaCompiler compiler = ToolProvider.getSystemJavaCompiler();
        try (StandardJavaFileManager files = compiler.getStandardFileManager(null, null, null)) {
            JavacTask task = (JavacTask) compiler.getTask(null, files, null, null, null, files.getJavaFileObjects(PROGRAM));
            CompilationUnitTree unit = task.parse().iterator().next();
            task.analyze();
            Language language = new Language(Trees.instance(task), unit);
            language.scan(unit, null);
            language.look();
        }
        Due.end();
    }

    private void look() {
        Due.sentence("rule 4: The library: only what stands here");
        Due.holds("used are " + library, LIBRARY.containsAll(library));
        Due.sentence("rule 11: the file has at most some twelve classes");
        Due.holds("there are " + classes, classes <= MOST_CLASSES);
        for (Element begin : calls.keySet()) {
            Due.sentence("rule 8: the depth is carried as an argument, and the code refuses what would go deeper");
            Due.holds(begin + " calls itself without a level", !reached(begin).contains(begin) || carriesLevel(begin));
            Due.sentence("rule 11: calls that are no recursion go at most eight deep");
            int deep = deepest(begin);
            Due.holds(begin + " goes " + deep + " deep", deep <= MOST_CALLS_DEEP);
        }
        Due.sentence("the program was read");
        Due.holds("only " + calls.size() + " methods were found", calls.size() > 20);
    }

    /** All methods that a method calls, by way of others too. */
    private Set<Element> reached(Element from) {
        Set<Element> reached = new HashSet<>();
        reach(from, reached);
        return reached;
    }

    private void reach(Element from, Set<Element> reached) {
        for (Element next : calls.getOrDefault(from, Set.of())) {
            if (reached.add(next)) {
                reach(next, reached);
            }
        }
    }

    /** Its last parameter is the level; where it calls no comparing method, it compares the level itself. */
    private boolean carriesLevel(Element recursive) {
        var parameters = ((ExecutableElement) recursive).getParameters();
        VariableElement last = parameters.isEmpty() ? null : parameters.get(parameters.size() - 1);
        boolean isCompared = comparing.contains(recursive);
        for (Element next : calls.get(recursive)) {
            isCompared |= comparing.contains(next);
        }
        return last != null && last.getSimpleName().contentEquals("level") && isCompared;
    }

    /** How many methods of a chain of calls are open at most; of methods that call one another each is once. */
    private int deepest(Element from) {
        Set<Element> together = reached(from);
        together.removeIf(other -> !reached(other).contains(from));
        together.add(from);
        int most = 0;
        for (Element open : together) {
            for (Element next : calls.getOrDefault(open, Set.of())) {
                most = together.contains(next) ? most : Math.max(most, deepest(next));
            }
        }
        return together.size() + most;
    }

    private void refused(String rule, Tree tree) {
        Due.sentence(rule);
        Due.holds("line " + line(trees.getSourcePositions().getStartPosition(unit, tree)) + ": " + tree, false);
    }

    private long line(long position) {
        return unit.getLineMap().getLineNumber(position);
    }

    @Override
    public Void visitImport(ImportTree tree, Void none) {
        Due.sentence("rule 4: The library: only what stands here");
        Due.holds(tree.toString().strip(), tree.getQualifiedIdentifier().toString().equals("java.util.Arrays"));
        return null;
    }

    @Override
    public Void visitClass(ClassTree tree, Void none) {
        classes++;
        return super.visitClass(tree, none);
    }

    @Override
    public Void visitMethod(MethodTree tree, Void none) {
        method = (ExecutableElement) trees.getElement(getCurrentPath());
        calls.put(method, new HashSet<>());
        long start = trees.getSourcePositions().getStartPosition(unit, tree);
        long end = trees.getSourcePositions().getEndPosition(unit, tree);
        Due.sentence("rule 11: Methods stay short (some sixty lines)");
        Due.holds(tree.getName().toString(), end < 0 || line(end) - line(start) < MOST_LINES);
        Void answer = super.visitMethod(tree, none);
        method = null;
        return answer;
    }

    @Override
    public Void visitMethodInvocation(MethodInvocationTree tree, Void none) {
        Element called = trees.getElement(getCurrentPath());
        String owner = called.getEnclosingElement().toString();
        if (owner.startsWith("CuttingRules")) {
            calls.get(method).add(called);
        } else if (!called.getSimpleName().contentEquals("<init>")) {
            library.add(owner + "." + called.getSimpleName());
        }
        return super.visitMethodInvocation(tree, none);
    }

    @Override
    public Void visitNewClass(NewClassTree tree, Void none) {
        boolean isConstructor = method != null && method.getSimpleName().contentEquals("<init>");
        if (!isConstructor) {
            refused("all rows are made in constructors, as README.md says", tree);
        }
        return super.visitNewClass(tree, none);
    }

    @Override
    public Void visitNewArray(NewArrayTree tree, Void none) {
        if (method != null) {
            refused("all rows are made in constructors, as README.md says", tree);
        }
        return super.visitNewArray(tree, none);
    }

    @Override
    public Void visitBinary(BinaryTree tree, Void none) {
        if (tree.getLeftOperand().toString().equals("level") && tree.getKind() == Tree.Kind.GREATER_THAN) {
            comparing.add(method);
        }
        return super.visitBinary(tree, none);
    }

    @Override
    public Void visitThrow(ThrowTree tree, Void none) {
        refused("rule 6: A call of the face throws exactly what and where the document says: nothing", tree);
        return null;
    }

    @Override
    public Void visitTry(TryTree tree, Void none) {
        refused("rule 6: there is nothing to catch where nothing is thrown", tree);
        return null;
    }

    @Override
    public Void visitSynchronized(SynchronizedTree tree, Void none) {
        refused("rule 6: No synchronized, assert", tree);
        return null;
    }

    @Override
    public Void visitAssert(AssertTree tree, Void none) {
        refused("rule 6: No synchronized, assert", tree);
        return null;
    }

    @Override
    public Void visitLambdaExpression(LambdaExpressionTree tree, Void none) {
        refused("rule 2: no lambda, no method reference", tree);
        return null;
    }

    @Override
    public Void visitMemberReference(MemberReferenceTree tree, Void none) {
        refused("rule 2: no lambda, no method reference", tree);
        return null;
    }
}
