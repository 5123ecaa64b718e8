import com.sun.source.tree.ArrayAccessTree;
import com.sun.source.tree.BinaryTree;
import com.sun.source.tree.ClassTree;
import com.sun.source.tree.CompilationUnitTree;
import com.sun.source.tree.ForLoopTree;
import com.sun.source.tree.MethodInvocationTree;
import com.sun.source.tree.MethodTree;
import com.sun.source.tree.NewArrayTree;
import com.sun.source.tree.NewClassTree;
import com.sun.source.tree.Tree;
import com.sun.source.tree.TypeCastTree;
import com.sun.source.util.JavacTask;
import com.sun.source.util.TreePathScanner;
import com.sun.source.util.Trees;
import java.io.IOException;
import java.nio.file.Path;
import java.util.EnumSet;
import java.util.HashSet;
import java.util.LinkedHashMap;
import java.util.Map;
import java.util.Set;
import javax.lang.model.element.Element;
import javax.lang.model.element.ExecutableElement;
import javax.tools.JavaCompiler;
import javax.tools.StandardJavaFileManager;
import javax.tools.ToolProvider;

/** Rules of the language that are told from the tree of the source: what stands in methods, and who calls whom. */
public final class RulesTest {
    private static final int MOST_LINES = 60, MOST_PARAMETERS = 7, DEEPEST_CHAIN = 8, MOST_CLASSES = 12;
    private static final Set<Tree.Kind> RULED_OUT = EnumSet.of(Tree.Kind.THROW, Tree.Kind.TRY, Tree.Kind.CATCH,
        Tree.Kind.SYNCHRONIZED, Tree.Kind.ASSERT, Tree.Kind.LAMBDA_EXPRESSION, Tree.Kind.MEMBER_REFERENCE,
        Tree.Kind.WHILE_LOOP, Tree.Kind.DO_WHILE_LOOP, Tree.Kind.REMAINDER, Tree.Kind.REMAINDER_ASSIGNMENT,
        Tree.Kind.DIVIDE_ASSIGNMENT);
    private static final Set<String> LIBRARY = Set.of("Math.max", "Math.min");
    private static final Set<String> READERS = Set.of("Cells.read", "Cells.write");
    private static final Map<Element, Set<Element>> CALLED = new LinkedHashMap<>();
    private static int wrong = 0;

    public static void main(String[] args) throws IOException {
        JavaCompiler compiler = ToolProvider.getSystemJavaCompiler();
        if (compiler == null) {
            System.out.println("this java has no compiler, so that the rules were not looked at");
            return;
        }
        StandardJavaFileManager files = compiler.getStandardFileManager(null, null, null);
        JavacTask task = (JavacTask) compiler.getTask(null, files, null, null, null,
            files.getJavaFileObjects(Path.of("src/main/java/RiceBlocks.java")));
        CompilationUnitTree unit = task.parse().iterator().next();
        task.analyze();
        new Scan(unit, Trees.instance(task)).scan(unit, null);
        callsGoNoDeeper();
        System.out.println(wrong == 0 ? "the rules hold" : wrong + " places are against the rules");
        if (wrong != 0) {
            System.exit(1);
        }
    }

    private static void due(boolean holds, String text) {
        if (!holds) {
            wrong++;
            System.out.println("not so: " + text);
        }
    }

    private static void callsGoNoDeeper() {
        due(CALLED.size() > 22, "the methods were found");
        for (Element method : CALLED.keySet()) {
            int chain = longestChain(method, new HashSet<>());
            due(chain <= DEEPEST_CHAIN, "calls from " + method + " go at most eight deep: " + chain);
        }
    }

    // A method that calls itself, or is called by one that it calls, counts as a chain that is too long.
    private static int longestChain(Element method, Set<Element> open) {
        if (!open.add(method)) {
            return DEEPEST_CHAIN + 1;
        }
        int longest = 0;
        for (Element other : CALLED.getOrDefault(method, Set.of())) {
            longest = Math.max(longest, longestChain(other, open));
        }
        open.remove(method);
        return longest + 1;
    }

    /** Goes through the source once. */
    private static final class Scan extends TreePathScanner<Void, Void> {
        private final CompilationUnitTree unit;
        private final Trees trees;
        private int classes = 0;
        private Element method = null;

        Scan(CompilationUnitTree unit, Trees trees) {
            this.unit = unit;
            this.trees = trees;
        }

        private String place(Tree tree) {
            long start = trees.getSourcePositions().getStartPosition(unit, tree);
            return "line " + unit.getLineMap().getLineNumber(start) + ": ";
        }

        private long lines(Tree tree) {
            long start = trees.getSourcePositions().getStartPosition(unit, tree);
            long end = trees.getSourcePositions().getEndPosition(unit, tree);
            return unit.getLineMap().getLineNumber(end) - unit.getLineMap().getLineNumber(start) + 1;
        }

        private String nameOf(Element element) {
            return element.getEnclosingElement().getSimpleName() + "." + element.getSimpleName();
        }

        @Override
        public Void scan(Tree tree, Void nothing) {
            if (tree != null) {
                due(!RULED_OUT.contains(tree.getKind()), place(tree) + "no " + tree.getKind());
            }
            return super.scan(tree, nothing);
        }

        @Override
        public Void visitClass(ClassTree tree, Void nothing) {
            classes++;
            due(classes <= MOST_CLASSES, place(tree) + "at most twelve classes");
            due(method == null, place(tree) + "no class stands in a method");
            return super.visitClass(tree, nothing);
        }

        @Override
        public Void visitMethod(MethodTree tree, Void nothing) {
            method = trees.getElement(getCurrentPath());
            CALLED.put(method, new HashSet<>());
            due(lines(tree) <= MOST_LINES, place(tree) + "a method has at most sixty lines");
            due(tree.getParameters().size() <= MOST_PARAMETERS, place(tree) + "at most seven parameters");
            super.visitMethod(tree, nothing);
            method = null;
            return null;
        }

        @Override
        public Void visitMethodInvocation(MethodInvocationTree tree, Void nothing) {
            Element called = trees.getElement(getCurrentPath());
            boolean own = trees.getTree(called) != null;
            boolean superConstructor = ((ExecutableElement) called).getSimpleName().contentEquals("<init>");
            due(own || superConstructor || LIBRARY.contains(nameOf(called)), place(tree) + "no call of " + called);
            if (own && method != null) {
                CALLED.get(method).add(called);
            }
            return super.visitMethodInvocation(tree, nothing);
        }

        // What a constructor makes is made once for an object; what a call made would stay in the room.
        private boolean inConstructor() {
            return method == null || method.getSimpleName().contentEquals("<init>");
        }

        @Override
        public Void visitNewClass(NewClassTree tree, Void nothing) {
            due(inConstructor(), place(tree) + "no method makes an object");
            return super.visitNewClass(tree, nothing);
        }

        @Override
        public Void visitNewArray(NewArrayTree tree, Void nothing) {
            due(inConstructor(), place(tree) + "no method makes an array");
            return super.visitNewArray(tree, nothing);
        }

        @Override
        public Void visitTypeCast(TypeCastTree tree, Void nothing) {
            due(tree.getType().getKind() == Tree.Kind.PRIMITIVE_TYPE, place(tree) + "casts are among numbers only");
            return super.visitTypeCast(tree, nothing);
        }

        @Override
        public Void visitBinary(BinaryTree tree, Void nothing) {
            Tree around = getCurrentPath().getParentPath().getLeaf();
            boolean tested = around.getKind() == Tree.Kind.CONDITIONAL_EXPRESSION;
            due(tree.getKind() != Tree.Kind.DIVIDE || tested, place(tree) + "a divisor is tested where it divides");
            return super.visitBinary(tree, nothing);
        }

        @Override
        public Void visitArrayAccess(ArrayAccessTree tree, Void nothing) {
            due(method != null && READERS.contains(nameOf(method)), place(tree) + "only Cells meets an array with an index");
            return super.visitArrayAccess(tree, nothing);
        }

        @Override
        public Void visitForLoop(ForLoopTree tree, Void nothing) {
            due(tree.getCondition() != null, place(tree) + "a loop has an end");
            return super.visitForLoop(tree, nothing);
        }
    }
}
