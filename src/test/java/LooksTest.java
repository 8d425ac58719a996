import com.sun.source.tree.ArrayAccessTree;
import com.sun.source.tree.BinaryTree;
import com.sun.source.tree.CompilationUnitTree;
import com.sun.source.tree.CompoundAssignmentTree;
import com.sun.source.tree.ConditionalExpressionTree;
import com.sun.source.tree.ExpressionTree;
import com.sun.source.tree.ForLoopTree;
import com.sun.source.tree.IdentifierTree;
import com.sun.source.tree.LiteralTree;
import com.sun.source.tree.MethodInvocationTree;
import com.sun.source.tree.MethodTree;
import com.sun.source.tree.NewArrayTree;
import com.sun.source.tree.ParenthesizedTree;
import com.sun.source.tree.PrimitiveTypeTree;
import com.sun.source.tree.StatementTree;
import com.sun.source.tree.Tree;
import com.sun.source.tree.TypeCastTree;
import com.sun.source.tree.VariableTree;
import com.sun.source.util.JavacTask;
import com.sun.source.util.TreePath;
import com.sun.source.util.TreePathScanner;
import com.sun.source.util.TreeScanner;
import com.sun.source.util.Trees;
import java.io.IOException;
import java.nio.file.Paths;
import java.util.Arrays;
import java.util.HashSet;
import java.util.Set;
import javax.lang.model.element.Element;
import javax.lang.model.element.ElementKind;
import javax.lang.model.element.Modifier;
import javax.tools.JavaCompiler;
import javax.tools.StandardJavaFileManager;
import javax.tools.ToolProvider;

/**
 * Rule 7 of LANGUAGE.md as far as the source's words show it: an index is looked at, in the method that uses it and
 * ahead of its use; a divisor is looked at where it divides; a new array's length and a cast's type can't be wrong.
 */
public final class LooksTest {
    private static final Set<Tree.Kind> COMPARISONS = new HashSet<>(Arrays.asList(Tree.Kind.LESS_THAN,
            Tree.Kind.LESS_THAN_EQUAL, Tree.Kind.GREATER_THAN, Tree.Kind.GREATER_THAN_EQUAL));
    private static final Set<Tree.Kind> DIVISIONS = new HashSet<>(Arrays.asList(Tree.Kind.DIVIDE, Tree.Kind.REMAINDER,
            Tree.Kind.DIVIDE_ASSIGNMENT, Tree.Kind.REMAINDER_ASSIGNMENT));

    private static int indexes = 0;

    public static void main(String[] args) throws IOException {
        look(args.length > 0 ? args[0] : "src/main/java/BracketTongue.java");
        Check.due("indexes are found", indexes > 60, true);
        Check.end("LooksTest");
    }

    private static void look(String file) throws IOException {
        JavaCompiler javac = ToolProvider.getSystemJavaCompiler();
        try (StandardJavaFileManager files = javac.getStandardFileManager(null, null, null)) {
            JavacTask task = (JavacTask) javac.getTask(null, files, null, Arrays.asList("-proc:none"), null,
                    files.getJavaFileObjects(Paths.get(file)));
            Trees trees = Trees.instance(task);
            Iterable<? extends CompilationUnitTree> units = task.parse();
            task.analyze();
            for (CompilationUnitTree unit : units) {
                new Looker(trees, unit).scan(unit, null);
            }
        }
    }

    private static final class Looker extends TreePathScanner<Void, Void> {
        private final Trees trees;
        private final CompilationUnitTree unit;
        private TreePath method;

        Looker(Trees trees, CompilationUnitTree unit) {
            this.trees = trees;
            this.unit = unit;
        }

        private String told(Tree tree) {
            long line = unit.getLineMap().getLineNumber(start(tree));
            return "line " + line + ": " + tree;
        }

        private long start(Tree tree) {
            return trees.getSourcePositions().getStartPosition(unit, tree);
        }

        @Override
        public Void visitMethod(MethodTree node, Void nothing) {
            method = getCurrentPath();
            super.visitMethod(node, nothing);
            method = null;
            return null;
        }

        @Override
        public Void visitArrayAccess(ArrayAccessTree node, Void nothing) {
            indexes++;
            TreePath index = new TreePath(getCurrentPath(), node.getIndex());
            Check.due("an index is looked at, " + told(node), isConstant(index) || isHeldDown(node.getIndex())
                    || node.getIndex() instanceof IdentifierTree && isLookedAt(index), true);
            return super.visitArrayAccess(node, nothing);
        }

        private boolean isConstant(TreePath path) {
            if (path.getLeaf() instanceof LiteralTree) {
                return true;
            }
            if (path.getLeaf() instanceof BinaryTree both) {
                return isConstant(new TreePath(path, both.getLeftOperand()))
                        && isConstant(new TreePath(path, both.getRightOperand()));
            }
            if (path.getLeaf() instanceof ParenthesizedTree inner) {
                return isConstant(new TreePath(path, inner.getExpression()));
            }
            Element element = trees.getElement(path);
            return element != null && element.getModifiers().contains(Modifier.STATIC)
                    && element.getModifiers().contains(Modifier.FINAL);
        }

        /** A mask or a floorMod lets no other number through. */
        private boolean isHeldDown(Tree tree) {
            return tree.getKind() == Tree.Kind.AND || tree.toString().startsWith("Math.floorMod(");
        }

        private boolean isLookedAt(TreePath index) {
            String name = index.getLeaf().toString();
            Uses uses = new Uses(name, start(index.getLeaf()));
            uses.scan(method.getLeaf(), null);
            boolean isCount = trees.getElement(index).getKind() == ElementKind.FIELD || uses.isLoopCounter;
            return uses.isHeldDown || uses.hasRoom || uses.comparisons >= (isCount ? 1 : 2);
        }

        /** What a method does with a name ahead of a place. */
        private final class Uses extends TreeScanner<Void, Void> {
            private final String name;
            private final long end;
            int comparisons;
            boolean hasRoom;
            boolean isHeldDown;
            boolean isLoopCounter;

            Uses(String name, long end) {
                this.name = name;
                this.end = end;
            }

            @Override
            public Void visitBinary(BinaryTree node, Void nothing) {
                boolean isNamed = node.getLeftOperand().toString().equals(name)
                        || node.getRightOperand().toString().equals(name);
                if (COMPARISONS.contains(node.getKind()) && isNamed && start(node) < end) {
                    comparisons++;
                }
                return super.visitBinary(node, nothing);
            }

            @Override
            public Void visitMethodInvocation(MethodInvocationTree node, Void nothing) {
                boolean isRoom = node.getMethodSelect().toString().equals("Rows.withRoom") && start(node) < end;
                if (isRoom && node.getArguments().get(1).toString().startsWith(name + " + ")) {
                    hasRoom = true;
                }
                return super.visitMethodInvocation(node, nothing);
            }

            @Override
            public Void visitVariable(VariableTree node, Void nothing) {
                if (node.getName().contentEquals(name) && node.getInitializer() != null) {
                    isHeldDown |= Looker.this.isHeldDown(node.getInitializer());
                }
                return super.visitVariable(node, nothing);
            }

            @Override
            public Void visitForLoop(ForLoopTree node, Void nothing) {
                for (StatementTree first : node.getInitializer()) {
                    isLoopCounter |= first instanceof VariableTree v && v.getName().contentEquals(name);
                }
                return super.visitForLoop(node, nothing);
            }
        }

        @Override
        public Void visitBinary(BinaryTree node, Void nothing) {
            if (DIVISIONS.contains(node.getKind())) {
                Check.due("a divisor is looked at, " + told(node), isSafeDivisor(node.getRightOperand()), true);
            }
            return super.visitBinary(node, nothing);
        }

        @Override
        public Void visitCompoundAssignment(CompoundAssignmentTree node, Void nothing) {
            Check.due("no division here, " + told(node), DIVISIONS.contains(node.getKind()), false);
            return super.visitCompoundAssignment(node, nothing);
        }

        private boolean isSafeDivisor(ExpressionTree divisor) {
            if (divisor instanceof LiteralTree number) {
                return !number.getValue().equals(0);
            }
            Tree around = getCurrentPath().getParentPath().getLeaf();
            return around instanceof ConditionalExpressionTree choice
                    && choice.getCondition().toString().equals(divisor + " == 0")
                    && choice.getFalseExpression() == getCurrentPath().getLeaf();
        }

        @Override
        public Void visitNewArray(NewArrayTree node, Void nothing) {
            for (ExpressionTree length : node.getDimensions()) {
                Check.due("a length is a constant, " + told(node),
                        isConstant(new TreePath(getCurrentPath(), length)), true);
            }
            return super.visitNewArray(node, nothing);
        }

        @Override
        public Void visitTypeCast(TypeCastTree node, Void nothing) {
            Check.due("a cast among numbers, " + told(node), node.getType() instanceof PrimitiveTypeTree, true);
            return super.visitTypeCast(node, nothing);
        }

        @Override
        public Void visitMethodInvocation(MethodInvocationTree node, Void nothing) {
            String called = node.getMethodSelect().toString();
            if (called.equals("Arrays.copyOf")) {
                Check.due("rows grow in one place, " + told(node),
                        ((MethodTree) method.getLeaf()).getName().contentEquals("withRoom"), true);
            }
            if (called.endsWith(".charAt")) {
                TreePath index = new TreePath(getCurrentPath(), node.getArguments().get(0));
                Check.due("a sign's index is looked at, " + told(node), isLookedAt(index), true);
            }
            if (called.equals("Math.floorMod")) {
                Check.due("floorMod by a constant, " + told(node),
                        isConstant(new TreePath(getCurrentPath(), node.getArguments().get(1))), true);
            }
            return super.visitMethodInvocation(node, nothing);
        }
    }
}
