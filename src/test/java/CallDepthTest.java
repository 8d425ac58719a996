import com.sun.source.tree.ClassTree;
import com.sun.source.tree.CompilationUnitTree;
import com.sun.source.tree.MethodInvocationTree;
import com.sun.source.tree.MethodTree;
import com.sun.source.tree.NewClassTree;
import com.sun.source.util.JavacTask;
import com.sun.source.util.TreePath;
import com.sun.source.util.TreePathScanner;
import com.sun.source.util.Trees;
import java.io.IOException;
import java.nio.file.Paths;
import java.util.ArrayDeque;
import java.util.Arrays;
import java.util.Deque;
import java.util.HashMap;
import java.util.LinkedHashSet;
import java.util.Map;
import java.util.Set;
import javax.lang.model.element.Element;
import javax.lang.model.element.Modifier;
import javax.tools.JavaCompiler;
import javax.tools.StandardJavaFileManager;
import javax.tools.ToolProvider;

/** Rule 11 of LANGUAGE.md: calls that are no recursion go at most eight deep, each method of a recursion counted once. */
public final class CallDepthTest {
    private static final int DEEPEST = 8;

    private final Map<Element, Set<Element>> calls = new HashMap<>();

    public static void main(String[] args) throws IOException {
        CallDepthTest test = new CallDepthTest();
        test.gather(args.length > 0 ? args[0] : "src/main/java/BracketTongue.java");
        Check.due("methods are found", test.calls.size() > 50, true);
        for (Element method : test.calls.keySet()) {
            if (method.getModifiers().contains(Modifier.PUBLIC)) {
                Check.due("calls from " + method, test.deepest(method, new ArrayDeque<>()) <= DEEPEST, true);
            }
        }
        Check.end("CallDepthTest");
    }

    private void gather(String file) throws IOException {
        JavaCompiler javac = ToolProvider.getSystemJavaCompiler();
        try (StandardJavaFileManager files = javac.getStandardFileManager(null, null, null)) {
            JavacTask task = (JavacTask) javac.getTask(null, files, null, Arrays.asList("-proc:none"), null,
                    files.getJavaFileObjects(Paths.get(file)));
            Trees trees = Trees.instance(task);
            Iterable<? extends CompilationUnitTree> units = task.parse();
            task.analyze();
            for (CompilationUnitTree unit : units) {
                new Gatherer(trees).scan(unit, null);
            }
        }
    }

    private final class Gatherer extends TreePathScanner<Void, Void> {
        private final Trees trees;
        private Element around;

        Gatherer(Trees trees) {
            this.trees = trees;
        }

        @Override
        public Void visitClass(ClassTree node, Void nothing) {
            Element outer = around;
            around = null;
            super.visitClass(node, nothing);
            around = outer;
            return null;
        }

        @Override
        public Void visitMethod(MethodTree node, Void nothing) {
            around = trees.getElement(getCurrentPath());
            calls.computeIfAbsent(around, method -> new LinkedHashSet<>());
            super.visitMethod(node, nothing);
            around = null;
            return null;
        }

        @Override
        public Void visitMethodInvocation(MethodInvocationTree node, Void nothing) {
            called(getCurrentPath());
            return super.visitMethodInvocation(node, nothing);
        }

        @Override
        public Void visitNewClass(NewClassTree node, Void nothing) {
            called(getCurrentPath());
            return super.visitNewClass(node, nothing);
        }

        private void called(TreePath path) {
            Element method = trees.getElement(path);
            if (around != null && method != null) {
                calls.get(around).add(method);
            }
        }
    }

    /** How many of the program's own methods are open at the most, from this one on; one that is open is not met again. */
    private int deepest(Element method, Deque<Element> open) {
        if (!calls.containsKey(method) || open.contains(method)) {
            return 0;
        }
        open.push(method);
        if (open.size() > DEEPEST) {
            System.out.println("too deep: " + open);
        }
        int deepest = 0;
        for (Element next : calls.get(method)) {
            deepest = Math.max(deepest, deepest(next, open));
        }
        open.pop();
        return deepest + 1;
    }
}
