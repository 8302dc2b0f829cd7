import com.sun.source.tree.ArrayAccessTree;
import com.sun.source.tree.BinaryTree;
import com.sun.source.tree.BlockTree;
import com.sun.source.tree.ClassTree;
import com.sun.source.tree.CompilationUnitTree;
import com.sun.source.tree.CompoundAssignmentTree;
import com.sun.source.tree.DoWhileLoopTree;
import com.sun.source.tree.ExpressionTree;
import com.sun.source.tree.ForLoopTree;
import com.sun.source.tree.IdentifierTree;
import com.sun.source.tree.MethodInvocationTree;
import com.sun.source.tree.MethodTree;
import com.sun.source.tree.NewArrayTree;
import com.sun.source.tree.NewClassTree;
import com.sun.source.tree.ThrowTree;
import com.sun.source.tree.Tree;
import com.sun.source.tree.TypeCastTree;
import com.sun.source.tree.VariableTree;
import com.sun.source.tree.WhileLoopTree;
import com.sun.source.util.JavacTask;
import com.sun.source.util.TreePath;
import com.sun.source.util.TreePathScanner;
import com.sun.source.util.TreeScanner;
import com.sun.source.util.Trees;
import java.util.EnumSet;
import java.util.HashSet;
import java.util.List;
import java.util.Map;
import java.util.Set;
import java.util.TreeMap;
import java.util.TreeSet;
import javax.lang.model.element.Element;
import javax.lang.model.element.Modifier;
import javax.lang.model.type.ArrayType;
import javax.lang.model.type.TypeKind;
import javax.lang.model.type.TypeMirror;
import javax.tools.JavaCompiler;
import javax.tools.StandardJavaFileManager;
import javax.tools.ToolProvider;

/** The rules of ../shared/LANGUAGE.md that can be seen in the source, by the tree that the compiler makes of it. */
public final class LanguageTest {
    private static final String SOURCE = "src/main/java/RailPendulum.java";
    private static final String MAKING = "<init>";
    private static final int DEEPEST_CALLS = 8;
    private static final int LONGEST_METHOD = 60;

    private static final Set<String> LIBRARY = Set.of(
        "java.lang.Math.abs", "java.lang.Math.max", "java.lang.Math.min", "java.lang.Math.floorDiv",
        "java.lang.Math.floorMod", "java.lang.Long.bitCount", "java.lang.String.length",
        "java.lang.String.charAt", "java.lang.System.arraycopy", "java.lang.Object." + MAKING);

    private static final Set<String> EXCEPTIONS = Set.of(
        "java.lang.IllegalStateException", "java.lang.IllegalArgumentException",
        "java.lang.IndexOutOfBoundsException");

    // A class that catches nothing can't answer a call by what the machine throws: hence no TRY at all.
    private static final Set<Tree.Kind> LEFT_OUT = EnumSet.of(
        Tree.Kind.TRY, Tree.Kind.LAMBDA_EXPRESSION, Tree.Kind.MEMBER_REFERENCE, Tree.Kind.SYNCHRONIZED,
        Tree.Kind.ASSERT, Tree.Kind.IMPORT, Tree.Kind.PACKAGE, Tree.Kind.INSTANCE_OF);

    private static final Set<Tree.Kind> COMPARISONS = EnumSet.of(
        Tree.Kind.LESS_THAN, Tree.Kind.LESS_THAN_EQUAL, Tree.Kind.GREATER_THAN, Tree.Kind.GREATER_THAN_EQUAL,
        Tree.Kind.EQUAL_TO, Tree.Kind.NOT_EQUAL_TO);

    private final CompilationUnitTree unit;
    private final Trees trees;
    private final Map<String, Set<String>> callsOf = new TreeMap<>();
    private final Set<String> throwing = new TreeSet<>();

    private LanguageTest(CompilationUnitTree unit, Trees trees) {
        this.unit = unit;
        this.trees = trees;
    }

    public static void main(String[] args) throws Exception {
        JavaCompiler compiler = ToolProvider.getSystemJavaCompiler();
        try (StandardJavaFileManager files = compiler.getStandardFileManager(null, null, null)) {
            JavacTask task = (JavacTask) compiler.getTask(
                    null, files, null, List.of("-proc:none"), null, files.getJavaFileObjects(SOURCE));
            CompilationUnitTree unit = task.parse().iterator().next();
            task.analyze();
            new LanguageTest(unit, Trees.instance(task)).readAll();
        }
        Checks.finish();
    }

    private void readAll() {
        Checks.due("rule 1: classes beside the public one", unit.getTypeDecls().size(), 1);
        Checks.due("rule 4: imports", unit.getImports().size(), 0);
        new Reader().scan(unit, null);
        Checks.due("the methods were read", callsOf.size() > 60, true);
        for (String method : callsOf.keySet()) {
            callsGoAtMostEightDeep(method);
            if (method.endsWith("." + MAKING)) {
                noThrowBehindIt(method);
            }
        }
    }

    /** Rule 11: "calls that are no recursion go at most eight deep", the library's counted too; and there is no recursion. */
    private void callsGoAtMostEightDeep(String method) {
        Checks.due("rule 11: depth of the calls from " + method + " is at most 8", depthOf(method, 1) <= DEEPEST_CALLS, true);
    }

    private int depthOf(String method, int above) {
        int deepest = above;
        if (above > DEEPEST_CALLS) {
            return above;
        }
        for (String called : callsOf.getOrDefault(method, Set.of())) {
            deepest = Math.max(deepest, depthOf(called, above + 1));
        }
        return deepest;
    }

    /** Rule 6: "no throw in a constructor", nor in what it calls. */
    private void noThrowBehindIt(String maker) {
        Set<String> reached = new HashSet<>(Set.of(maker));
        int before = 0;
        while (reached.size() > before) {
            before = reached.size();
            for (String method : List.copyOf(reached)) {
                reached.addAll(callsOf.getOrDefault(method, Set.of()));
            }
        }
        reached.retainAll(throwing);
        Checks.sameText("rule 6: what throws behind " + maker, reached.toString(), "[]");
    }

    /** Walks through the source, and checks each part of it that a rule speaks of. */
    private final class Reader extends TreePathScanner<Void, Void> {
        private String method = "";
        private Tree body;

        @Override
        public Void scan(Tree node, Void nothing) {
            if (node != null && LEFT_OUT.contains(node.getKind())) {
                Checks.due(where(node) + " has a " + node.getKind(), true, false);
            }
            return super.scan(node, nothing);
        }

        @Override
        public Void visitClass(ClassTree node, Void nothing) {
            Tree around = getCurrentPath().getParentPath().getLeaf();
            Checks.due("rule 2: " + where(node) + " stands in a method", around instanceof BlockTree, false);
            for (Tree member : node.getMembers()) {
                Checks.due("rule 5: " + where(member) + " is a block", member instanceof BlockTree, false);
            }
            return super.visitClass(node, nothing);
        }

        @Override
        public Void visitMethod(MethodTree node, Void nothing) {
            method = nameOf(trees.getElement(getCurrentPath()));
            body = node;
            callsOf.putIfAbsent(method, new TreeSet<>());
            Checks.due("rule 11: " + method + " is some sixty lines at most", linesOf(node) <= LONGEST_METHOD, true);
            super.visitMethod(node, nothing);
            method = "";
            body = null;
            return nothing;
        }

        @Override
        public Void visitVariable(VariableTree node, Void nothing) {
            TypeMirror type = trees.getTypeMirror(getCurrentPath());
            Checks.due("rule 3: " + where(node) + " has a type that is listed", isListed(type), true);
            if (body != null) {
                return super.visitVariable(node, nothing);
            }
            // What a field begins with is made by the constructor.
            Element field = trees.getElement(getCurrentPath());
            body = node;
            method = field.getEnclosingElement() + "." + (field.getModifiers().contains(Modifier.STATIC) ? "<static>" : MAKING);
            super.visitVariable(node, nothing);
            method = "";
            body = null;
            return nothing;
        }

        @Override
        public Void visitMethodInvocation(MethodInvocationTree node, Void nothing) {
            Element called = trees.getElement(new TreePath(getCurrentPath(), node.getMethodSelect()));
            noteCall(nameOf(called), node);
            if (called.getSimpleName().contentEquals("floorDiv") || called.getSimpleName().contentEquals("floorMod")) {
                divisorIsTested(node.getArguments().get(1));
            }
            return super.visitMethodInvocation(node, nothing);
        }

        @Override
        public Void visitNewClass(NewClassTree node, Void nothing) {
            String made = trees.getTypeMirror(getCurrentPath()).toString();
            if (getCurrentPath().getParentPath().getLeaf().getKind() == Tree.Kind.THROW) {
                Checks.due("rule 6: " + made + " is listed", EXCEPTIONS.contains(made), true);
                boolean written = node.getArguments().isEmpty()
                        || node.getArguments().get(0).getKind() == Tree.Kind.STRING_LITERAL;
                Checks.due("rule 6: " + where(node) + " has a written text", written, true);
            } else {
                noteCall(made + "." + MAKING, node);
            }
            return super.visitNewClass(node, nothing);
        }

        @Override
        public Void visitThrow(ThrowTree node, Void nothing) {
            Checks.due("rule 6: " + where(node) + " is throw new",
                    node.getExpression().getKind() == Tree.Kind.NEW_CLASS, true);
            throwing.add(method);
            return super.visitThrow(node, nothing);
        }

        @Override
        public Void visitNewArray(NewArrayTree node, Void nothing) {
            for (ExpressionTree length : node.getDimensions()) {
                Checks.sameText("rule 7: the length in " + where(node) + " has no name that varies",
                        varyingNames(length).toString(), "[]");
            }
            return super.visitNewArray(node, nothing);
        }

        @Override
        public Void visitArrayAccess(ArrayAccessTree node, Void nothing) {
            String test = node.getIndex() + " < " + node.getExpression() + ".length";
            Checks.due("rule 7: " + where(node) + " stands in a method with " + test, comparisons().contains(test), true);
            return super.visitArrayAccess(node, nothing);
        }

        @Override
        public Void visitBinary(BinaryTree node, Void nothing) {
            if (node.getKind() == Tree.Kind.DIVIDE || node.getKind() == Tree.Kind.REMAINDER) {
                divisorIsTested(node.getRightOperand());
            }
            boolean ofTexts = isText(node.getLeftOperand()) || isText(node.getRightOperand());
            Checks.due("rules 6 and 10: " + where(node) + " joins or compares texts", ofTexts, false);
            return super.visitBinary(node, nothing);
        }

        @Override
        public Void visitCompoundAssignment(CompoundAssignmentTree node, Void nothing) {
            if (node.getKind() == Tree.Kind.DIVIDE_ASSIGNMENT || node.getKind() == Tree.Kind.REMAINDER_ASSIGNMENT) {
                divisorIsTested(node.getExpression());
            }
            Checks.due("rule 10: " + where(node) + " joins texts", isText(node.getVariable()), false);
            return super.visitCompoundAssignment(node, nothing);
        }

        @Override
        public Void visitTypeCast(TypeCastTree node, Void nothing) {
            boolean ofNumbers = trees.getTypeMirror(getCurrentPath()).getKind().isPrimitive();
            Checks.due("rule 6: " + where(node) + " is a cast of a number", ofNumbers, true);
            return super.visitTypeCast(node, nothing);
        }

        @Override
        public Void visitForLoop(ForLoopTree node, Void nothing) {
            Checks.due("rule 9: " + where(node) + " has an end", hasComparison(node.getCondition()), true);
            return super.visitForLoop(node, nothing);
        }

        @Override
        public Void visitWhileLoop(WhileLoopTree node, Void nothing) {
            Checks.due("rule 9: " + where(node) + " has an end", hasComparison(node.getCondition()), true);
            return super.visitWhileLoop(node, nothing);
        }

        @Override
        public Void visitDoWhileLoop(DoWhileLoopTree node, Void nothing) {
            Checks.due("rule 9: " + where(node) + " has an end", hasComparison(node.getCondition()), true);
            return super.visitDoWhileLoop(node, nothing);
        }

        private void noteCall(String called, Tree node) {
            boolean known = called.startsWith("RailPendulum") || LIBRARY.contains(called);
            Checks.due("rule 4: " + called + " in " + where(node) + " is listed", known, true);
            callsOf.computeIfAbsent(method, none -> new TreeSet<>()).add(called);
        }

        /** Rule 7: "a divisor before it divides": each name in it is a constant, or compared in the same method. */
        private void divisorIsTested(ExpressionTree divisor) {
            Set<String> untested = varyingNames(divisor);
            for (String comparison : comparisons()) {
                untested.removeAll(List.of(comparison.split(" ")));
            }
            Checks.sameText("rule 7: what is untested of the divisor in " + where(divisor), untested.toString(), "[]");
            Checks.due("rule 7: the divisor in " + where(divisor) + " is 0", divisor.toString().equals("0"), false);
        }

        private Set<String> comparisons() {
            Set<String> all = new TreeSet<>();
            new TreeScanner<Void, Void>() {
                @Override
                public Void visitBinary(BinaryTree node, Void nothing) {
                    if (COMPARISONS.contains(node.getKind())) {
                        all.add(node.toString());
                    }
                    return super.visitBinary(node, nothing);
                }
            }.scan(body, null);
            return all;
        }

        private boolean isText(ExpressionTree part) {
            TypeMirror type = trees.getTypeMirror(new TreePath(getCurrentPath(), part));
            return type != null && type.toString().equals("java.lang.String");
        }

        private String where(Tree node) {
            long from = trees.getSourcePositions().getStartPosition(unit, node);
            String line = from < 0 ? "" : ", line " + unit.getLineMap().getLineNumber(from);
            return (method.isEmpty() ? "the source" : method) + line;
        }
    }

    private static boolean hasComparison(ExpressionTree condition) {
        if (condition == null) {
            return false;
        }
        boolean[] found = {false};
        new TreeScanner<Void, Void>() {
            @Override
            public Void visitBinary(BinaryTree node, Void nothing) {
                found[0] |= COMPARISONS.contains(node.getKind());
                return super.visitBinary(node, nothing);
            }
        }.scan(condition, null);
        return found[0];
    }

    private static Set<String> varyingNames(ExpressionTree part) {
        Set<String> names = new TreeSet<>();
        new TreeScanner<Void, Void>() {
            @Override
            public Void visitIdentifier(IdentifierTree node, Void nothing) {
                String name = node.getName().toString();
                if (!name.equals(name.toUpperCase())) {
                    names.add(name);
                }
                return nothing;
            }
        }.scan(part, null);
        return names;
    }

    private static String nameOf(Element method) {
        return method.getEnclosingElement() + "." + method.getSimpleName();
    }

    private long linesOf(MethodTree node) {
        long from = trees.getSourcePositions().getStartPosition(unit, node);
        long to = trees.getSourcePositions().getEndPosition(unit, node);
        return from < 0 || to < 0 ? 0 : unit.getLineMap().getLineNumber(to) - unit.getLineMap().getLineNumber(from) + 1;
    }

    /** Rule 3: numbers, the class's own classes and String; arrays of them of one dimension, of numbers of two. */
    private static boolean isListed(TypeMirror type) {
        TypeMirror inner = type;
        int dimensions = 0;
        while (inner.getKind() == TypeKind.ARRAY) {
            inner = ((ArrayType) inner).getComponentType();
            dimensions++;
        }
        if (inner.getKind().isPrimitive()) {
            return dimensions <= 2;
        }
        boolean own = inner.toString().startsWith("RailPendulum");
        return dimensions <= 1 && own || dimensions == 0 && inner.toString().equals("java.lang.String");
    }
}
