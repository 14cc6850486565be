import com.sun.source.tree.AssertTree;
import com.sun.source.tree.BlockTree;
import com.sun.source.tree.ClassTree;
import com.sun.source.tree.CompilationUnitTree;
import com.sun.source.tree.LambdaExpressionTree;
import com.sun.source.tree.LineMap;
import com.sun.source.tree.MemberReferenceTree;
import com.sun.source.tree.MethodInvocationTree;
import com.sun.source.tree.MethodTree;
import com.sun.source.tree.NewArrayTree;
import com.sun.source.tree.NewClassTree;
import com.sun.source.tree.SynchronizedTree;
import com.sun.source.tree.ThrowTree;
import com.sun.source.tree.Tree;
import com.sun.source.tree.TryTree;
import com.sun.source.util.JavacTask;
import com.sun.source.util.TreePathScanner;
import com.sun.source.util.Trees;
import java.io.IOException;
import java.nio.file.Path;
import java.util.ArrayList;
import java.util.HashMap;
import java.util.HashSet;
import java.util.List;
import java.util.Map;
import java.util.Set;
import javax.lang.model.element.Element;
import javax.lang.model.element.Modifier;
import javax.tools.JavaCompiler;
import javax.tools.StandardJavaFileManager;
import javax.tools.ToolProvider;

/** What LANGUAGE.md says and a reader of the source can count (its rules 2, 4, 6, 11 and 12). */
final class LanguageTest extends TreePathScanner<Void, Void> {
    private static final String SOURCE = "src/main/java/TypedMill.java";
    private static final Set<String> LIBRARY = Set.of("java.util.Arrays.fill", "java.lang.Math.max");
    private static final int MOST_LINES = 60;
    private static final int MOST_DEEP = 8;

    private final Trees trees;
    private final CompilationUnitTree unit;
    private final Map<Element, Set<Element>> calls = new HashMap<>();
    private Element method;
    private MethodTree methodTree;
    private boolean throwing;
    private int classes;

    private LanguageTest(Trees trees, CompilationUnitTree unit) {
        this.trees = trees;
        this.unit = unit;
    }

    public static void main(String[] args) throws IOException {
        JavaCompiler compiler = ToolProvider.getSystemJavaCompiler();
        StandardJavaFileManager files = compiler.getStandardFileManager(null, null, null);
        JavacTask task = (JavacTask) compiler.getTask(null, files, null, List.of("-proc:none"), null,
                files.getJavaFileObjects(Path.of(SOURCE)));
        CompilationUnitTree unit = task.parse().iterator().next();
        task.analyze();
        LanguageTest test = new LanguageTest(Trees.instance(task), unit);
        test.scan(unit, null);
        Expect.yes("some twelve classes at most: " + test.classes, test.classes <= 12);
        test.judgeDepth();
        Expect.end();
    }

    private void forbidden(String what, Tree tree) {
        long at = unit.getLineMap().getLineNumber(trees.getSourcePositions().getStartPosition(unit, tree));
        Expect.yes("line " + at + ": no " + what, false);
    }

    @Override
    public Void visitClass(ClassTree tree, Void nothing) {
        classes++;
        for (Tree member : tree.getMembers()) {
            if (member instanceof BlockTree) {
                forbidden("initialiser block", member);
            }
        }
        return super.visitClass(tree, nothing);
    }

    @Override
    public Void visitMethod(MethodTree tree, Void nothing) {
        method = trees.getElement(getCurrentPath());
        methodTree = tree;
        calls.computeIfAbsent(method, m -> new HashSet<>());
        LineMap lines = unit.getLineMap();
        long from = lines.getLineNumber(trees.getSourcePositions().getStartPosition(unit, tree));
        long to = lines.getLineNumber(trees.getSourcePositions().getEndPosition(unit, tree));
        Expect.yes(method + " has some sixty lines at most", to - from < MOST_LINES);
        Expect.yes(method + " has seven parameters at most", tree.getParameters().size() <= 7);
        super.visitMethod(tree, nothing);
        method = null;
        methodTree = null;
        return null;
    }

    @Override
    public Void visitMethodInvocation(MethodInvocationTree tree, Void nothing) {
        Element called = trees.getElement(getCurrentPath());
        String owner = called.getEnclosingElement().toString();
        boolean own = owner.startsWith("TypedMill");
        String name = owner + "." + called.getSimpleName();
        boolean implied = called.getSimpleName().contentEquals("<init>");
        Expect.yes(name + " stands in the rules", own || implied || LIBRARY.contains(name));
        if (own && method != null) {
            calls.computeIfAbsent(method, m -> new HashSet<>()).add(called);
        }
        return super.visitMethodInvocation(tree, nothing);
    }

    @Override
    public Void visitThrow(ThrowTree tree, Void nothing) {
        Expect.yes("a throw in a method of the face", method.getModifiers().contains(Modifier.PUBLIC));
        Expect.yes("no throw in a constructor", methodTree.getReturnType() != null);
        throwing = true;
        super.visitThrow(tree, nothing);
        throwing = false;
        return null;
    }

    /** What is made is made in constructors and with fields: no call makes anything but what it throws. */
    private void made(Tree tree) {
        boolean atFirst = method == null || methodTree.getReturnType() == null;
        if (!atFirst && !throwing) {
            forbidden("object made by a call", tree);
        }
    }

    @Override
    public Void visitNewClass(NewClassTree tree, Void nothing) {
        made(tree);
        return super.visitNewClass(tree, nothing);
    }

    @Override
    public Void visitNewArray(NewArrayTree tree, Void nothing) {
        made(tree);
        return super.visitNewArray(tree, nothing);
    }

    @Override
    public Void visitLambdaExpression(LambdaExpressionTree tree, Void nothing) {
        forbidden("lambda", tree);
        return null;
    }

    @Override
    public Void visitMemberReference(MemberReferenceTree tree, Void nothing) {
        forbidden("method reference", tree);
        return null;
    }

    @Override
    public Void visitSynchronized(SynchronizedTree tree, Void nothing) {
        forbidden("synchronized", tree);
        return null;
    }

    @Override
    public Void visitAssert(AssertTree tree, Void nothing) {
        forbidden("assert", tree);
        return null;
    }

    @Override
    public Void visitTry(TryTree tree, Void nothing) {
        forbidden("try", tree);
        return null;
    }

    /** Methods that call one another count as two, however deep they go; every other one counts as one. */
    private void judgeDepth() {
        Map<Element, Set<Element>> reached = new HashMap<>();
        for (Element one : calls.keySet()) {
            reached.put(one, reachedFrom(one));
        }
        Map<Element, Integer> known = new HashMap<>();
        for (Element one : calls.keySet()) {
            int deep = depth(one, reached, known);
            Expect.yes(one + " goes " + deep + " deep, eight at most", deep <= MOST_DEEP);
        }
    }

    private Set<Element> reachedFrom(Element one) {
        Set<Element> found = new HashSet<>();
        List<Element> open = new ArrayList<>(calls.get(one));
        while (!open.isEmpty()) {
            Element next = open.remove(open.size() - 1);
            if (found.add(next)) {
                open.addAll(calls.getOrDefault(next, Set.of()));
            }
        }
        return found;
    }

    private int depth(Element one, Map<Element, Set<Element>> reached, Map<Element, Integer> known) {
        if (known.containsKey(one)) {
            return known.get(one);
        }
        Set<Element> circle = new HashSet<>(Set.of(one));
        for (Element other : reached.get(one)) {
            if (reached.get(other).contains(one)) {
                circle.add(other);
            }
        }
        int below = 0;
        for (Element member : circle) {
            for (Element next : calls.get(member)) {
                below = Math.max(below, circle.contains(next) ? 0 : depth(next, reached, known));
            }
        }
        int deep = below + (circle.size() > 1 ? 2 : 1);
        known.put(one, deep);
        return deep;
    }
}
