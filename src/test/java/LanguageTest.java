import com.sun.source.tree.AssignmentTree;
import com.sun.source.tree.BinaryTree;
import com.sun.source.tree.CompilationUnitTree;
import com.sun.source.tree.CompoundAssignmentTree;
import com.sun.source.tree.ExpressionStatementTree;
import com.sun.source.tree.ExpressionTree;
import com.sun.source.tree.ForLoopTree;
import com.sun.source.tree.LiteralTree;
import com.sun.source.tree.MethodInvocationTree;
import com.sun.source.tree.MethodTree;
import com.sun.source.tree.NewArrayTree;
import com.sun.source.tree.NewClassTree;
import com.sun.source.tree.Tree;
import com.sun.source.tree.TypeCastTree;
import com.sun.source.tree.UnaryTree;
import com.sun.source.tree.WhileLoopTree;
import com.sun.source.util.JavacTask;
import com.sun.source.util.TreePath;
import com.sun.source.util.TreePathScanner;
import com.sun.source.util.Trees;
import java.io.IOException;
import java.util.ArrayList;
import java.util.List;
import java.util.Map;
import java.util.Set;
import java.util.TreeMap;
import java.util.TreeSet;
import javax.lang.model.element.Element;
import javax.lang.model.element.VariableElement;
import javax.tools.JavaCompiler;
import javax.tools.StandardJavaFileManager;
import javax.tools.ToolProvider;

/** The rules of the language that are seen only when the program is read as a tree: calls, loops, divisors, casts. */
public final class LanguageTest {
    private static final Check CHECK = new Check("LanguageTest");
    private static final String PROGRAM = "src/main/java/HalfFloats.java";
    private static final int DEEPEST = 8;
    private static final Set<String> LIBRARY = Set.of(
        "java.lang.Math.max", "java.lang.Math.min", "java.lang.Long.numberOfLeadingZeros", "java.lang.Long.compare",
        "java.util.Arrays.fill");

    public static void main(String[] args) throws IOException {
        Reader reader = read();
        for (String called : reader.outside) {
            CHECK.holds("rule 4 lists " + called, LIBRARY.contains(called));
        }
        for (String wrong : reader.wrong) {
            CHECK.holds(wrong, false);
        }
        CHECK.holds("the loops are read", reader.loops >= 10);
        CHECK.holds("the divisions are read", reader.divisions >= 3);
        CHECK.holds("the methods are read", reader.calls.size() >= 40);
        for (String method : reader.calls.keySet()) {
            List<String> chain = longestChain(reader.calls, method, new ArrayList<>());
            CHECK.holds("rule 11: no more than eight calls stand open in " + chain, chain.size() <= DEEPEST);
        }
        CHECK.finish();
    }

    private static Reader read() throws IOException {
        JavaCompiler compiler = ToolProvider.getSystemJavaCompiler();
        try (StandardJavaFileManager files = compiler.getStandardFileManager(null, null, null)) {
            JavacTask task = (JavacTask) compiler.getTask(null, files, null, List.of("-proc:none"), null,
                files.getJavaFileObjects(PROGRAM));
            Iterable<? extends CompilationUnitTree> units = task.parse();
            task.analyze();
            Reader reader = new Reader(Trees.instance(task));
            for (CompilationUnitTree unit : units) {
                reader.scan(unit, null);
            }
            return reader;
        }
    }

    /** The longest chain of calls from a method; one that comes to itself again is told, and ends there. */
    private static List<String> longestChain(Map<String, Set<String>> calls, String method, List<String> open) {
        if (open.contains(method)) {
            CHECK.holds("rule 8: " + method + " calls itself by " + open, false);
            return List.of(method);
        }
        open.add(method);
        List<String> longest = List.of();
        for (String called : calls.getOrDefault(method, Set.of())) {
            List<String> chain = longestChain(calls, called, open);
            longest = chain.size() > longest.size() ? chain : longest;
        }
        open.remove(open.size() - 1);
        List<String> whole = new ArrayList<>();
        whole.add(method);
        whole.addAll(longest);
        return whole;
    }

    /** Goes through the tree and keeps who calls whom, and what no rule lets stand. */
    private static final class Reader extends TreePathScanner<Void, Void> {
        final Map<String, Set<String>> calls = new TreeMap<>();
        final Set<String> outside = new TreeSet<>();
        final List<String> wrong = new ArrayList<>();
        int loops;
        int divisions;
        private final Trees trees;
        private String method = "";

        Reader(Trees trees) {
            this.trees = trees;
        }

        private void reject(String why, Tree tree) {
            wrong.add(why + ", in " + method + ": " + tree.toString().replaceAll("\\s+", " "));
        }

        private static String nameOf(Element called) {
            return called.getEnclosingElement() + "." + called.getSimpleName();
        }

        private void note(Element called) {
            String name = nameOf(called);
            if (!name.startsWith("HalfFloats")) {
                outside.add(name);
            }
            calls.computeIfAbsent(method, m -> new TreeSet<>()).add(name);
        }

        @Override
        public Void visitMethod(MethodTree tree, Void none) {
            method = nameOf(trees.getElement(getCurrentPath()));
            calls.computeIfAbsent(method, m -> new TreeSet<>());
            return super.visitMethod(tree, none);
        }

        @Override
        public Void visitMethodInvocation(MethodInvocationTree tree, Void none) {
            Element called = trees.getElement(getCurrentPath());
            // a constructor begins with one of the class above it, which is the library's own
            if (!called.getSimpleName().contentEquals("<init>")) {
                note(called);
            }
            return super.visitMethodInvocation(tree, none);
        }

        @Override
        public Void visitNewClass(NewClassTree tree, Void none) {
            onlyInConstructor(tree);
            note(trees.getElement(getCurrentPath()));
            return super.visitNewClass(tree, none);
        }

        @Override
        public Void visitNewArray(NewArrayTree tree, Void none) {
            onlyInConstructor(tree);
            return super.visitNewArray(tree, none);
        }

        private void onlyInConstructor(Tree tree) {
            if (!method.endsWith(".<init>")) {
                reject("something is made after the constructor", tree);
            }
        }

        @Override
        public Void visitForLoop(ForLoopTree tree, Void none) {
            loops++;
            if (tree.getCondition() == null || tree.getUpdate().isEmpty()) {
                reject("rule 9: a loop without a counter or a bound", tree);
            }
            for (ExpressionStatementTree update : tree.getUpdate()) {
                if (!movesByConstant(update.getExpression())) {
                    reject("rule 9: a loop whose own lines do not show that it ends", tree);
                }
            }
            return super.visitForLoop(tree, none);
        }

        /** Whether a counter goes on by one, by a number that is written out, or by being divided by one. */
        private static boolean movesByConstant(ExpressionTree update) {
            if (update instanceof CompoundAssignmentTree step) {
                return step.getExpression() instanceof LiteralTree;
            }
            if (update instanceof AssignmentTree step) {
                return step.getExpression().getKind() == Tree.Kind.DIVIDE;
            }
            return update instanceof UnaryTree;
        }

        @Override
        public Void visitWhileLoop(WhileLoopTree tree, Void none) {
            loops++;
            return super.visitWhileLoop(tree, none);
        }

        @Override
        public Void visitBinary(BinaryTree tree, Void none) {
            if (tree.getKind() == Tree.Kind.DIVIDE || tree.getKind() == Tree.Kind.REMAINDER) {
                divisions++;
                constantDivisor(tree.getRightOperand());
            }
            return super.visitBinary(tree, none);
        }

        @Override
        public Void visitCompoundAssignment(CompoundAssignmentTree tree, Void none) {
            if (tree.getKind() == Tree.Kind.DIVIDE_ASSIGNMENT || tree.getKind() == Tree.Kind.REMAINDER_ASSIGNMENT) {
                divisions++;
                constantDivisor(tree.getExpression());
            }
            return super.visitCompoundAssignment(tree, none);
        }

        /** Rule 7: a divisor is a constant that is not 0, so that none needs to be looked at. */
        private void constantDivisor(ExpressionTree divisor) {
            Object constant = null;
            if (divisor instanceof LiteralTree literal) {
                constant = literal.getValue();
            } else if (elementOf(divisor) instanceof VariableElement variable) {
                constant = variable.getConstantValue();
            }
            if (!(constant instanceof Number number) || number.longValue() == 0) {
                reject("rule 7: a divisor that is no constant", divisor);
            }
        }

        private Element elementOf(Tree tree) {
            return trees.getElement(new TreePath(getCurrentPath(), tree));
        }

        @Override
        public Void visitTypeCast(TypeCastTree tree, Void none) {
            if (tree.getType().getKind() != Tree.Kind.PRIMITIVE_TYPE) {
                reject("a cast that could fail", tree);
            }
            return super.visitTypeCast(tree, none);
        }
    }
}
