import com.sun.source.tree.ArrayAccessTree;
import com.sun.source.tree.AssertTree;
import com.sun.source.tree.BinaryTree;
import com.sun.source.tree.BlockTree;
import com.sun.source.tree.ClassTree;
import com.sun.source.tree.CompilationUnitTree;
import com.sun.source.tree.ConditionalExpressionTree;
import com.sun.source.tree.DoWhileLoopTree;
import com.sun.source.tree.ExpressionTree;
import com.sun.source.tree.ForLoopTree;
import com.sun.source.tree.IdentifierTree;
import com.sun.source.tree.LambdaExpressionTree;
import com.sun.source.tree.LiteralTree;
import com.sun.source.tree.MemberReferenceTree;
import com.sun.source.tree.MemberSelectTree;
import com.sun.source.tree.MethodInvocationTree;
import com.sun.source.tree.MethodTree;
import com.sun.source.tree.NewArrayTree;
import com.sun.source.tree.NewClassTree;
import com.sun.source.tree.SynchronizedTree;
import com.sun.source.tree.ThrowTree;
import com.sun.source.tree.Tree;
import com.sun.source.tree.TryTree;
import com.sun.source.tree.TypeCastTree;
import com.sun.source.tree.VariableTree;
import com.sun.source.tree.WhileLoopTree;
import com.sun.source.util.JavacTask;
import com.sun.source.util.TreePath;
import com.sun.source.util.TreePathScanner;
import com.sun.source.util.Trees;
import java.io.IOException;
import java.nio.file.Path;
import java.util.ArrayList;
import java.util.List;
import java.util.Map;
import java.util.Set;
import java.util.TreeMap;
import java.util.TreeSet;
import javax.lang.model.element.Element;
import javax.lang.model.element.ElementKind;
import javax.lang.model.type.TypeKind;
import javax.lang.model.type.TypeMirror;
import javax.tools.JavaCompiler;
import javax.tools.JavaFileObject;
import javax.tools.StandardJavaFileManager;
import javax.tools.ToolProvider;

/** Goes through the program's text as javac understands it, and notes what breaks a rule. */
final class LanguageScan extends TreePathScanner<Void, Void> {
    private static final Set<String> TYPES = Set.of("int", "long", "short", "byte", "char", "boolean", "double", "float",
            "void", "java.lang.String", "java.lang.StringBuilder", "java.lang.Integer");
    private static final Set<String> CALLS = Set.of("java.lang.Math.min", "java.lang.Math.max", "java.lang.Math.abs",
            "java.lang.System.arraycopy", "java.util.Arrays.fill", "java.util.Arrays.copyOf", "java.lang.Object.<init>");
    private static final Set<String> EXCEPTIONS = Set.of("java.lang.IllegalStateException",
            "java.lang.IllegalArgumentException", "java.lang.IndexOutOfBoundsException");

    final Map<Integer, List<String>> breaches = new TreeMap<>();
    final Map<String, Set<String>> callees = new TreeMap<>();
    private Trees trees;
    private CompilationUnitTree unit;

    void read(Path source) throws IOException {
        JavaCompiler compiler = ToolProvider.getSystemJavaCompiler();
        try (StandardJavaFileManager files = compiler.getStandardFileManager(null, null, null)) {
            Iterable<? extends JavaFileObject> sources = files.getJavaFileObjects(source.toFile());
            JavacTask task = (JavacTask) compiler.getTask(null, files, null, null, null, sources);
            unit = task.parse().iterator().next();
            task.analyze();
            trees = Trees.instance(task);
            scan(unit, null);
        }
    }

    private void breach(int rule, Tree where) {
        long line = unit.getLineMap().getLineNumber(trees.getSourcePositions().getStartPosition(unit, where));
        breaches.computeIfAbsent(rule, r -> new ArrayList<>()).add("line " + line + ": " + where);
    }

    private TypeMirror typeOf(Tree tree) {
        return trees.getTypeMirror(new TreePath(getCurrentPath(), tree));
    }

    private static String nameOf(Element method) {
        return method.getEnclosingElement() + "." + method.getSimpleName();
    }

    private <T extends Tree> T around(Class<T> kind) {
        for (TreePath path = getCurrentPath(); path != null; path = path.getParentPath()) {
            if (kind.isInstance(path.getLeaf())) {
                return kind.cast(path.getLeaf());
            }
        }
        return null;
    }

    private boolean inConstructor() {
        MethodTree method = around(MethodTree.class);
        return method == null || method.getName().contentEquals("<init>");
    }

    private boolean oursOrListed(TypeMirror type) {
        if (type.getKind() == TypeKind.ARRAY) {
            return oursOrListed(((javax.lang.model.type.ArrayType) type).getComponentType());
        }
        String name = type.toString();
        return TYPES.contains(name) || name.startsWith("PlannedPages");
    }

    // ---- rules 2, 6 and 9: what may not stand at all

    @Override
    public Void visitLambdaExpression(LambdaExpressionTree tree, Void none) {
        breach(2, tree);
        return super.visitLambdaExpression(tree, none);
    }

    @Override
    public Void visitMemberReference(MemberReferenceTree tree, Void none) {
        breach(2, tree);
        return super.visitMemberReference(tree, none);
    }

    @Override
    public Void visitTry(TryTree tree, Void none) {
        breach(6, tree);
        return super.visitTry(tree, none);
    }

    @Override
    public Void visitSynchronized(SynchronizedTree tree, Void none) {
        breach(6, tree);
        return super.visitSynchronized(tree, none);
    }

    @Override
    public Void visitAssert(AssertTree tree, Void none) {
        breach(6, tree);
        return super.visitAssert(tree, none);
    }

    @Override
    public Void visitClass(ClassTree tree, Void none) {
        if (around(MethodTree.class) != null) {
            breach(2, tree);
        }
        for (Tree member : tree.getMembers()) {
            if (member instanceof BlockTree) {
                breach(5, member);
            }
        }
        return super.visitClass(tree, none);
    }

    // ---- rules 3, 4, 8, 11 and 12: types, calls, objects

    @Override
    public Void visitVariable(VariableTree tree, Void none) {
        if (!oursOrListed(trees.getTypeMirror(getCurrentPath()))) {
            breach(3, tree);
        }
        return super.visitVariable(tree, none);
    }

    @Override
    public Void visitMethod(MethodTree tree, Void none) {
        if (tree.getReturnType() != null && !oursOrListed(typeOf(tree.getReturnType()))) {
            breach(3, tree);
        }
        if (Set.of("equals", "hashCode", "toString").contains(tree.getName().toString())) {
            breach(6, tree);
        }
        long from = trees.getSourcePositions().getStartPosition(unit, tree);
        long to = trees.getSourcePositions().getEndPosition(unit, tree);
        if (to > from && unit.getLineMap().getLineNumber(to) - unit.getLineMap().getLineNumber(from) >= 60) {
            breach(11, tree);
        }
        return super.visitMethod(tree, none);
    }

    @Override
    public Void visitMethodInvocation(MethodInvocationTree tree, Void none) {
        note(trees.getElement(getCurrentPath()), tree);
        return super.visitMethodInvocation(tree, none);
    }

    @Override
    public Void visitNewClass(NewClassTree tree, Void none) {
        Element made = trees.getElement(getCurrentPath());
        boolean thrown = getCurrentPath().getParentPath().getLeaf() instanceof ThrowTree;
        if (!thrown) {
            note(made, tree);
            if (!inConstructor()) {
                breach(12, tree);
            }
        }
        return super.visitNewClass(tree, none);
    }

    @Override
    public Void visitNewArray(NewArrayTree tree, Void none) {
        if (!inConstructor()) {
            breach(12, tree);
        }
        // A length that could be below 0 is looked at first.
        for (ExpressionTree length : tree.getDimensions()) {
            if (!isConstant(length) && !(length instanceof ConditionalExpressionTree)) {
                breach(7, tree);
            }
        }
        return super.visitNewArray(tree, none);
    }

    private void note(Element called, Tree where) {
        String name = nameOf(called);
        if (name.startsWith("PlannedPages")) {
            MethodTree method = around(MethodTree.class);
            if (method != null) {
                String caller = nameOf(trees.getElement(pathOf(method)));
                callees.computeIfAbsent(caller, c -> new TreeSet<>()).add(name);
            }
        } else if (!CALLS.contains(name)) {
            breach(4, where);
        }
    }

    private TreePath pathOf(Tree tree) {
        TreePath path = getCurrentPath();
        while (path.getLeaf() != tree) {
            path = path.getParentPath();
        }
        return path;
    }

    // ---- rule 6: throws

    @Override
    public Void visitThrow(ThrowTree tree, Void none) {
        boolean good = tree.getExpression() instanceof NewClassTree && !inConstructor()
                && EXCEPTIONS.contains(typeOf(tree.getExpression()).toString());
        if (good) {
            for (ExpressionTree argument : ((NewClassTree) tree.getExpression()).getArguments()) {
                good = argument instanceof LiteralTree;
            }
        }
        if (!good) {
            breach(6, tree);
        }
        return super.visitThrow(tree, none);
    }

    // ---- rules 3, 7 and 10: operators, divisors, indexes, casts

    private boolean isConstant(ExpressionTree tree) {
        if (tree instanceof LiteralTree) {
            return true;
        }
        Element element = trees.getElement(new TreePath(getCurrentPath(), tree));
        return element instanceof javax.lang.model.element.VariableElement
                && ((javax.lang.model.element.VariableElement) element).getConstantValue() != null;
    }

    @Override
    public Void visitBinary(BinaryTree tree, Void none) {
        String left = typeOf(tree.getLeftOperand()).toString();
        String right = typeOf(tree.getRightOperand()).toString();
        boolean real = left.equals("double") || right.equals("double");
        switch (tree.getKind()) {
            case PLUS:
                if (left.contains("String") || right.contains("String")) {
                    breach(10, tree);
                }
                break;
            case REMAINDER:
            case DIVIDE:
                if (real && tree.getKind() == Tree.Kind.REMAINDER) {
                    breach(3, tree);
                }
                if (!real && !isConstant(tree.getRightOperand())) {
                    breach(7, tree);
                }
                break;
            case EQUAL_TO:
            case NOT_EQUAL_TO:
                if (left.contains("String") || left.contains("Integer")) {
                    breach(6, tree);
                }
                break;
            default:
        }
        return super.visitBinary(tree, none);
    }

    @Override
    public Void visitTypeCast(TypeCastTree tree, Void none) {
        if (!typeOf(tree.getType()).getKind().isPrimitive()) {
            breach(7, tree);
        }
        return super.visitTypeCast(tree, none);
    }

    // Each index is a name that the same method holds against a length.
    @Override
    public Void visitArrayAccess(ArrayAccessTree tree, Void none) {
        MethodTree method = around(MethodTree.class);
        String index = firstName(tree.getIndex());
        if (method == null || index.isEmpty() || !comparesWithLength(method, index)) {
            breach(7, tree);
        }
        return super.visitArrayAccess(tree, none);
    }

    private static String firstName(ExpressionTree tree) {
        if (tree instanceof BinaryTree) {
            return firstName(((BinaryTree) tree).getLeftOperand());
        }
        return tree instanceof IdentifierTree ? tree.toString() : "";
    }

    private static boolean comparesWithLength(MethodTree method, String index) {
        boolean[] found = {false};
        new com.sun.source.util.TreeScanner<Void, Void>() {
            @Override
            public Void visitBinary(BinaryTree tree, Void none) {
                found[0] |= tree.getKind() == Tree.Kind.LESS_THAN && tree.getLeftOperand().toString().equals(index)
                        && tree.getRightOperand().toString().contains(".length");
                return super.visitBinary(tree, none);
            }

            @Override
            public Void visitVariable(VariableTree tree, Void none) {
                found[0] |= tree.getName().contentEquals(index) && tree.getInitializer() != null
                        && tree.getInitializer().toString().endsWith(".length - 1");
                return super.visitVariable(tree, none);
            }
        }.scan(method, null);
        return found[0];
    }

    // ---- rules 9 and 13: loops with an end, no clock and the like

    @Override
    public Void visitForLoop(ForLoopTree tree, Void none) {
        if (tree.getCondition() == null || tree.getUpdate().isEmpty()) {
            breach(9, tree);
        }
        return super.visitForLoop(tree, none);
    }

    @Override
    public Void visitWhileLoop(WhileLoopTree tree, Void none) {
        // A counter against a bound, joined to what the loop waits for.
        if (!tree.getCondition().toString().contains("&&")) {
            breach(9, tree);
        }
        return super.visitWhileLoop(tree, none);
    }

    @Override
    public Void visitDoWhileLoop(DoWhileLoopTree tree, Void none) {
        breach(9, tree);
        return super.visitDoWhileLoop(tree, none);
    }

    @Override
    public Void visitMemberSelect(MemberSelectTree tree, Void none) {
        Element element = trees.getElement(getCurrentPath());
        if (element != null && element.getKind() == ElementKind.FIELD
                && !nameOf(element).startsWith("PlannedPages") && !nameOf(element).endsWith(".length")) {
            breach(13, tree);
        }
        return super.visitMemberSelect(tree, none);
    }
}
