import com.sun.source.tree.ArrayAccessTree;
import com.sun.source.tree.AssertTree;
import com.sun.source.tree.AssignmentTree;
import com.sun.source.tree.BinaryTree;
import com.sun.source.tree.BlockTree;
import com.sun.source.tree.ClassTree;
import com.sun.source.tree.CompilationUnitTree;
import com.sun.source.tree.CompoundAssignmentTree;
import com.sun.source.tree.DoWhileLoopTree;
import com.sun.source.tree.ExpressionTree;
import com.sun.source.tree.ForLoopTree;
import com.sun.source.tree.IdentifierTree;
import com.sun.source.tree.LambdaExpressionTree;
import com.sun.source.tree.LiteralTree;
import com.sun.source.tree.MemberReferenceTree;
import com.sun.source.tree.MethodInvocationTree;
import com.sun.source.tree.MethodTree;
import com.sun.source.tree.NewArrayTree;
import com.sun.source.tree.NewClassTree;
import com.sun.source.tree.SynchronizedTree;
import com.sun.source.tree.ThrowTree;
import com.sun.source.tree.Tree;
import com.sun.source.tree.TryTree;
import com.sun.source.tree.TypeCastTree;
import com.sun.source.tree.UnaryTree;
import com.sun.source.tree.VariableTree;
import com.sun.source.tree.WhileLoopTree;
import com.sun.source.util.JavacTask;
import com.sun.source.util.TreePath;
import com.sun.source.util.TreePathScanner;
import com.sun.source.util.Trees;
import java.io.IOException;
import java.nio.file.Path;
import java.util.LinkedHashMap;
import java.util.LinkedHashSet;
import java.util.List;
import java.util.Map;
import java.util.Set;
import java.util.TreeSet;
import javax.lang.model.element.Element;
import javax.lang.model.element.ElementKind;
import javax.lang.model.element.Modifier;
import javax.lang.model.element.TypeElement;
import javax.lang.model.type.TypeMirror;
import javax.tools.JavaCompiler;
import javax.tools.StandardJavaFileManager;
import javax.tools.ToolProvider;

/** The rules of LANGUAGE.md that the compiler's own tree of the class shows; each complaint begins with the rule's number. */
public final class LanguageTreeTest extends TreePathScanner<Void, Void> {
    private static final String SOURCE = "src/main/java/UnderTheSofa.java";
    private static final Set<String> LIBRARY = Set.of("java.lang.Object.<init>", "java.util.Arrays.fill", "java.util.Arrays.copyOf",
        "java.util.Arrays.copyOfRange", "java.lang.System.arraycopy", "java.lang.Math.min", "java.lang.Math.max", "java.lang.Math.abs",
        "java.lang.Math.floorMod", "java.lang.Math.floorDiv", "java.lang.Long.bitCount", "java.lang.Integer.bitCount");
    private static final Set<String> EXCEPTIONS = Set.of("IllegalStateException", "IllegalArgumentException", "IndexOutOfBoundsException",
        "ArithmeticException", "UnsupportedOperationException", "NoSuchElementException", "RuntimeException");
    private static final Set<String> NUMBERS = Set.of("int", "long", "short", "byte", "char", "boolean");
    private static final int MOST_DEEP = 8;

    private static final Check check = new Check();

    private final Trees trees;
    private final CompilationUnitTree unit;
    private final Map<String, Set<String>> calls = new LinkedHashMap<>();
    private final Set<String> withDepth = new TreeSet<>();
    private int classes = 0;
    private int loops = 0;

    private LanguageTreeTest(Trees trees, CompilationUnitTree unit) {
        this.trees = trees;
        this.unit = unit;
    }

    public static void main(String[] args) throws IOException {
        JavaCompiler compiler = ToolProvider.getSystemJavaCompiler();
        try (StandardJavaFileManager files = compiler.getStandardFileManager(null, null, null)) {
            JavacTask task = (JavacTask) compiler.getTask(null, files, null, List.of("-proc:none"), null, files.getJavaFileObjects(Path.of(SOURCE)));
            for (CompilationUnitTree unit : task.parse()) {
                task.analyze();
                LanguageTreeTest test = new LanguageTreeTest(Trees.instance(task), unit);
                test.scan(unit, null);
                test.wholeClass();
            }
        }
        check.close("LanguageTreeTest");
    }

    private void rule(int number, Tree at, String what, boolean holds) {
        long line = unit.getLineMap().getLineNumber(trees.getSourcePositions().getStartPosition(unit, at));
        check.due("rule " + number + ", line " + line + ": " + what, holds, true);
    }

    private void wholeClass() {
        check.due("rule 1: one class at the top", unit.getTypeDecls().size(), 1);
        check.due("rule 1: no package", unit.getPackageName() == null, true);
        check.due("rule 11: some twelve classes at most", classes <= 12, true);
        check.due("rule 9: there are loops that were looked at", loops > 20, true);
        check.due("rule 8: there is recursion that was looked at", withDepth.size() >= 4, true);
        for (String method : calls.keySet()) {
            if (reached(method).contains(method)) {
                check.due("rule 8: " + method + " calls itself and carries its depth", withDepth.contains(method), true);
            }
            int deep = depth(method, new LinkedHashSet<>());
            check.due("rule 11: " + method + " goes eight calls deep at most (" + deep + ")", deep <= MOST_DEEP, true);
        }
    }

    // ---- what stands where

    private Element enclosing(ElementKind kind) {
        for (TreePath path = getCurrentPath(); path != null; path = path.getParentPath()) {
            Element element = path.getLeaf() instanceof MethodTree || path.getLeaf() instanceof ClassTree ? trees.getElement(path) : null;
            if (element != null && (element.getKind() == kind || kind == ElementKind.METHOD && element.getKind() == ElementKind.CONSTRUCTOR)) {
                return element;
            }
        }
        return null;
    }

    private boolean inConstructor() {
        Element method = enclosing(ElementKind.METHOD);
        return method != null && method.getKind() == ElementKind.CONSTRUCTOR;
    }

    private boolean inThrow() {
        for (TreePath path = getCurrentPath(); path != null; path = path.getParentPath()) {
            if (path.getLeaf() instanceof ThrowTree) {
                return true;
            }
        }
        return false;
    }

    private static String nameOf(Element method) {
        return method.getEnclosingElement() + "." + method.getSimpleName();
    }

    private boolean isOwn(TypeMirror type) {
        return type.toString().equals("UnderTheSofa") || type.toString().startsWith("UnderTheSofa.");
    }

    // ---- classes, methods, fields

    @Override
    public Void visitClass(ClassTree tree, Void none) {
        classes++;
        Element parent = trees.getElement(getCurrentPath()).getEnclosingElement();
        boolean inside = parent instanceof TypeElement;
        rule(2, tree, "no local class", inside || parent.getKind() == ElementKind.PACKAGE);
        rule(1, tree, "classes inside are private and static", !inside
            || tree.getModifiers().getFlags().containsAll(Set.of(Modifier.PRIVATE, Modifier.STATIC)));
        int fields = 0;
        for (Tree member : tree.getMembers()) {
            rule(5, member, "no block outside of methods", !(member instanceof BlockTree));
            fields += member instanceof VariableTree field && !field.getModifiers().getFlags().contains(Modifier.STATIC) ? 1 : 0;
        }
        rule(11, tree, "some twenty fields at most", fields <= 20);
        return super.visitClass(tree, none);
    }

    @Override
    public Void visitMethod(MethodTree tree, Void none) {
        Element method = trees.getElement(getCurrentPath());
        calls.putIfAbsent(nameOf(method), new LinkedHashSet<>());
        rule(11, tree, "seven parameters at most", tree.getParameters().size() <= 7);
        long begin = unit.getLineMap().getLineNumber(trees.getSourcePositions().getStartPosition(unit, tree));
        long end = unit.getLineMap().getLineNumber(Math.max(0, trees.getSourcePositions().getEndPosition(unit, tree)));
        rule(11, tree, "sixty lines at most", end - begin < 60);
        if (tree.getParameters().stream().anyMatch(parameter -> parameter.getName().contentEquals("depth"))) {
            withDepth.add(nameOf(method));
        }
        return super.visitMethod(tree, none);
    }

    @Override
    public Void visitVariable(VariableTree tree, Void none) {
        Element variable = trees.getElement(getCurrentPath());
        String type = variable.asType().toString();
        boolean own = type.startsWith("UnderTheSofa.") && !type.endsWith("[][]");
        rule(3, tree, "a type that may be: " + type, own || type.equals("java.lang.String") || NUMBERS.contains(type.replace("[]", "")));
        if (variable.getKind() == ElementKind.FIELD && variable.getModifiers().contains(Modifier.STATIC)) {
            boolean array = type.matches("(int|long|char|byte)\\[\\]") && tree.getInitializer() instanceof NewArrayTree;
            rule(5, tree, "a constant", variable.getModifiers().contains(Modifier.FINAL) && (array || !type.contains("[") && !own));
        }
        return super.visitVariable(tree, none);
    }

    // ---- calls and what is made

    @Override
    public Void visitMethodInvocation(MethodInvocationTree tree, Void none) {
        Element called = trees.getElement(new TreePath(getCurrentPath(), tree.getMethodSelect()));
        if (isOwn(called.getEnclosingElement().asType())) {
            rule(12, tree, "a constructor calls none of its class", !inConstructor());
            note(nameOf(called));
        } else {
            rule(4, tree, "the library has " + nameOf(called), LIBRARY.contains(nameOf(called)));
        }
        return super.visitMethodInvocation(tree, none);
    }

    @Override
    public Void visitNewClass(NewClassTree tree, Void none) {
        if (!inThrow()) {
            TypeMirror made = trees.getTypeMirror(getCurrentPath());
            rule(4, tree, "an own class: " + made, isOwn(made));
            madeInConstructor(tree);
            note(made + ".<init>");
        }
        rule(2, tree, "no class without a name", tree.getClassBody() == null);
        return super.visitNewClass(tree, none);
    }

    @Override
    public Void visitNewArray(NewArrayTree tree, Void none) {
        madeInConstructor(tree);
        return super.visitNewArray(tree, none);
    }

    private void madeInConstructor(Tree tree) {
        rule(12, tree, "what is made is made by constructors or for fields", enclosing(ElementKind.METHOD) == null || inConstructor());
    }

    private void note(String called) {
        Element from = enclosing(ElementKind.METHOD);
        if (from != null) {
            calls.computeIfAbsent(nameOf(from), name -> new LinkedHashSet<>()).add(called);
        }
    }

    private Set<String> reached(String from) {
        Set<String> reached = new LinkedHashSet<>();
        List<String> edge = List.copyOf(calls.getOrDefault(from, Set.of()));
        while (!edge.isEmpty()) {
            Set<String> next = new LinkedHashSet<>();
            for (String method : edge) {
                if (reached.add(method)) {
                    next.addAll(calls.getOrDefault(method, Set.of()));
                }
            }
            edge = List.copyOf(next);
        }
        return reached;
    }

    /** Methods that stand open at once, at most; one that stands open already (recursion) is not counted again. */
    private int depth(String method, Set<String> open) {
        if (!open.add(method)) {
            return 0;
        }
        int deepest = 0;
        for (String called : calls.getOrDefault(method, Set.of())) {
            deepest = Math.max(deepest, depth(called, open));
        }
        open.remove(method);
        return 1 + deepest;
    }

    // ---- statements

    @Override
    public Void visitThrow(ThrowTree tree, Void none) {
        boolean made = tree.getExpression() instanceof NewClassTree thrown && EXCEPTIONS.contains(thrown.getIdentifier().toString())
            && thrown.getArguments().size() <= 1 && thrown.getArguments().stream().allMatch(argument -> argument instanceof LiteralTree);
        rule(6, tree, "throw new E() or with a written text", made);
        rule(6, tree, "no throw in a constructor", !inConstructor());
        return super.visitThrow(tree, none);
    }

    @Override
    public Void visitForLoop(ForLoopTree tree, Void none) {
        loops++;
        Set<String> counters = new TreeSet<>();
        tree.getUpdate().forEach(update -> counters.addAll(changedBy(update.getExpression())));
        rule(9, tree, "a counter against a bound", tree.getCondition() != null && compares(tree.getCondition(), counters));
        return super.visitForLoop(tree, none);
    }

    private static Set<String> changedBy(ExpressionTree update) {
        ExpressionTree changed = update instanceof UnaryTree one ? one.getExpression()
            : update instanceof CompoundAssignmentTree more ? more.getVariable() : null;
        return changed == null ? Set.of() : Set.of(changed.toString());
    }

    /** The loop ends as soon as one part of an && fails, so that one comparison of a counter is enough. */
    private static boolean compares(ExpressionTree condition, Set<String> counters) {
        if (!(condition instanceof BinaryTree both)) {
            return false;
        }
        switch (both.getKind()) {
            case CONDITIONAL_AND:
                return compares(both.getLeftOperand(), counters) || compares(both.getRightOperand(), counters);
            case LESS_THAN:
            case LESS_THAN_EQUAL:
            case GREATER_THAN:
            case GREATER_THAN_EQUAL:
                return counters.contains(both.getLeftOperand().toString().replaceAll(" \\+ \\d+$", ""));
            default:
                return false;
        }
    }

    @Override
    public Void visitWhileLoop(WhileLoopTree tree, Void none) {
        rule(9, tree, "for shows its end better than while", false);
        return super.visitWhileLoop(tree, none);
    }

    @Override
    public Void visitDoWhileLoop(DoWhileLoopTree tree, Void none) {
        rule(9, tree, "for shows its end better than do", false);
        return super.visitDoWhileLoop(tree, none);
    }

    @Override
    public Void visitTry(TryTree tree, Void none) {
        rule(6, tree, "no call needs a try", false);
        return super.visitTry(tree, none);
    }

    @Override
    public Void visitSynchronized(SynchronizedTree tree, Void none) {
        rule(6, tree, "no synchronized", false);
        return super.visitSynchronized(tree, none);
    }

    @Override
    public Void visitAssert(AssertTree tree, Void none) {
        rule(6, tree, "no assert", false);
        return super.visitAssert(tree, none);
    }

    // ---- expressions

    @Override
    public Void visitLambdaExpression(LambdaExpressionTree tree, Void none) {
        rule(2, tree, "no lambda", false);
        return super.visitLambdaExpression(tree, none);
    }

    @Override
    public Void visitMemberReference(MemberReferenceTree tree, Void none) {
        rule(2, tree, "no method reference", false);
        return super.visitMemberReference(tree, none);
    }

    @Override
    public Void visitTypeCast(TypeCastTree tree, Void none) {
        rule(6, tree, "no cast but of numbers", NUMBERS.contains(tree.getType().toString()));
        return super.visitTypeCast(tree, none);
    }

    @Override
    public Void visitBinary(BinaryTree tree, Void none) {
        rule(10, tree, "texts are not joined by +", !"java.lang.String".equals(String.valueOf(trees.getTypeMirror(getCurrentPath()))));
        if (tree.getKind() == Tree.Kind.DIVIDE || tree.getKind() == Tree.Kind.REMAINDER) {
            rule(7, tree, "a divisor that was looked at, or a number: " + tree, isLookedAt(tree.getRightOperand()));
        }
        return super.visitBinary(tree, none);
    }

    /** A number that is not 0, a counter and a number more, or a name with which the condition of what it stands in compares 0. */
    private boolean isLookedAt(ExpressionTree divisor) {
        String text = divisor.toString().replaceAll("[()]", "");
        if (text.matches("[1-9][0-9]*L?|[A-Z_]+|[a-z] \\+ [1-9]")) {
            return true;
        }
        String method = "";
        for (TreePath path = getCurrentPath(); path != null && method.isEmpty(); path = path.getParentPath()) {
            method = path.getLeaf() instanceof MethodTree ? path.getLeaf().toString() : "";
        }
        return method.matches("(?s).*\\b" + text + " (==|!=|>) 0.*") || method.matches("(?s).*\\b" + text + " = \\w+ > 0L? \\? \\w+ : 1L?;.*");
    }

    @Override
    public Void visitAssignment(AssignmentTree tree, Void none) {
        leavesConstants(tree.getVariable());
        return super.visitAssignment(tree, none);
    }

    @Override
    public Void visitCompoundAssignment(CompoundAssignmentTree tree, Void none) {
        leavesConstants(tree.getVariable());
        return super.visitCompoundAssignment(tree, none);
    }

    @Override
    public Void visitUnary(UnaryTree tree, Void none) {
        if (!Set.of(Tree.Kind.UNARY_MINUS, Tree.Kind.UNARY_PLUS, Tree.Kind.LOGICAL_COMPLEMENT, Tree.Kind.BITWISE_COMPLEMENT).contains(tree.getKind())) {
            leavesConstants(tree.getExpression());
        }
        return super.visitUnary(tree, none);
    }

    private void leavesConstants(ExpressionTree changed) {
        ExpressionTree array = changed instanceof ArrayAccessTree access ? access.getExpression() : null;
        if (array instanceof IdentifierTree) {
            Element element = trees.getElement(new TreePath(getCurrentPath(), array));
            rule(5, changed, "constant arrays never change", element == null || !element.getModifiers().contains(Modifier.STATIC));
        }
    }
}
