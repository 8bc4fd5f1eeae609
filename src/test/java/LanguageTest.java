import com.sun.source.tree.AssertTree;
import com.sun.source.tree.BinaryTree;
import com.sun.source.tree.BlockTree;
import com.sun.source.tree.CatchTree;
import com.sun.source.tree.ClassTree;
import com.sun.source.tree.CompilationUnitTree;
import com.sun.source.tree.CompoundAssignmentTree;
import com.sun.source.tree.DoWhileLoopTree;
import com.sun.source.tree.ExpressionTree;
import com.sun.source.tree.ForLoopTree;
import com.sun.source.tree.InstanceOfTree;
import com.sun.source.tree.LambdaExpressionTree;
import com.sun.source.tree.LiteralTree;
import com.sun.source.tree.MemberReferenceTree;
import com.sun.source.tree.MethodInvocationTree;
import com.sun.source.tree.MethodTree;
import com.sun.source.tree.NewArrayTree;
import com.sun.source.tree.NewClassTree;
import com.sun.source.tree.ParenthesizedTree;
import com.sun.source.tree.SynchronizedTree;
import com.sun.source.tree.ThrowTree;
import com.sun.source.tree.Tree;
import com.sun.source.tree.TryTree;
import com.sun.source.tree.TypeCastTree;
import com.sun.source.tree.VariableTree;
import com.sun.source.tree.WhileLoopTree;
import com.sun.source.util.JavacTask;
import com.sun.source.util.TreePath;
import com.sun.source.util.TreePathScanner;
import com.sun.source.util.Trees;
import java.io.IOException;
import java.nio.file.Path;
import java.util.LinkedHashMap;
import java.util.LinkedHashSet;
import java.util.Map;
import java.util.Set;
import javax.lang.model.element.Element;
import javax.lang.model.element.ElementKind;
import javax.lang.model.element.Modifier;
import javax.lang.model.element.TypeElement;
import javax.lang.model.element.VariableElement;
import javax.lang.model.type.ArrayType;
import javax.lang.model.type.TypeKind;
import javax.lang.model.type.TypeMirror;
import javax.tools.JavaCompiler;
import javax.tools.JavaFileObject;
import javax.tools.StandardJavaFileManager;
import javax.tools.ToolProvider;

/**
 * The rules of ../shared/LANGUAGE.md, as far as the source's tree tells whether they are kept. Where the class asks for
 * less than they allow, so does this test: no call comes back to itself, static fields are numbers, there is no try,
 * and nothing but an exception is made behind the constructors.
 */
public final class LanguageTest extends TreePathScanner<Void, Void> {
    private static final String OWN = "PairedTumblers";
    private static final int PARAMETERS = 7;
    private static final int LINES = 60;
    private static final int DEPTH = 8;
    private static final int CLASSES = 12;
    private static final int FIELDS = 20;
    private static final Set<String> EXCEPTIONS = Set.of("IllegalStateException", "IllegalArgumentException",
        "IndexOutOfBoundsException", "ArithmeticException", "UnsupportedOperationException", "RuntimeException");
    private static final Set<String> LIBRARY = Set.of("Integer.bitCount", "Integer.compare", "Integer.max", "Integer.min",
        "Long.bitCount", "Long.compare", "Long.max", "Long.min", "Math.abs", "Math.max", "Math.min", "Math.floorDiv",
        "Math.floorMod", "System.arraycopy", "Arrays.copyOf", "Arrays.copyOfRange", "Arrays.fill");

    private final Checks checks = new Checks("language");
    private final Trees trees;
    private final CompilationUnitTree unit;
    private final Map<Element, Set<Element>> calls = new LinkedHashMap<>();
    private int classes = 0;

    private LanguageTest(JavacTask task) throws IOException {
        trees = Trees.instance(task);
        unit = task.parse().iterator().next();
        task.analyze();
    }

    public static void main(String[] args) throws IOException {
        JavaCompiler compiler = ToolProvider.getSystemJavaCompiler();
        try (StandardJavaFileManager files = compiler.getStandardFileManager(null, null, null)) {
            Iterable<? extends JavaFileObject> source =
                files.getJavaFileObjects(Path.of("src/main/java/PairedTumblers.java"));
            LanguageTest test = new LanguageTest((JavacTask) compiler.getTask(null, files, null, null, null, source));
            test.all();
        }
    }

    private void all() {
        checks.same("package lines", 0, unit.getPackage() == null ? 0 : 1);
        checks.same("imports", 0, unit.getImports().size());
        checks.same("outer classes", 1, unit.getTypeDecls().size());
        scan(unit, null);
        checks.same("rule 11: at most " + CLASSES + " classes: " + classes, 1, classes <= CLASSES ? 1 : 0);
        for (Element method : calls.keySet()) {
            goThrough(method, new LinkedHashSet<>());
        }
        checks.end();
    }

    private void rule(String name, boolean kept, Tree tree) {
        long line = unit.getLineMap().getLineNumber(trees.getSourcePositions().getStartPosition(unit, tree));
        checks.same("rule " + name + ", line " + line, 1, kept ? 1 : 0);
    }

    private long lineOfEnd(Tree tree) {
        return unit.getLineMap().getLineNumber(trees.getSourcePositions().getEndPosition(unit, tree));
    }

    private Element here() {
        return trees.getElement(getCurrentPath());
    }

    private TypeMirror typeOf(Tree tree) {
        return trees.getTypeMirror(new TreePath(getCurrentPath(), tree));
    }

    private Tree around(Tree.Kind kind) {
        TreePath path = getCurrentPath();
        while (path != null && path.getLeaf().getKind() != kind) {
            path = path.getParentPath();
        }
        return path == null ? null : path.getLeaf();
    }

    private boolean isInConstructor() {
        Tree method = around(Tree.Kind.METHOD);
        return method != null && ((MethodTree) method).getName().contentEquals("<init>");
    }

    // ---- rules 2, 5, 11: classes and their fields

    @Override
    public Void visitClass(ClassTree tree, Void none) {
        classes++;
        Element owner = here().getEnclosingElement();
        rule("2: a class inside is static", owner.getKind() == ElementKind.PACKAGE
            || here().getModifiers().contains(Modifier.STATIC) || tree.getSimpleName().length() == 0, tree);
        int fields = 0;
        for (Tree member : tree.getMembers()) {
            if (member instanceof VariableTree variable) {
                boolean constant = variable.getModifiers().getFlags().contains(Modifier.STATIC);
                fields += constant ? 0 : 1;
                rule("5: static is final", !constant || isConstant(member), member);
            }
            rule("5: no initialiser block", !(member instanceof BlockTree), member);
        }
        rule("11: at most " + FIELDS + " fields", fields <= FIELDS, tree);
        return super.visitClass(tree, none);
    }

    private boolean isConstant(Tree member) {
        VariableElement field = (VariableElement) trees.getElement(new TreePath(getCurrentPath(), member));
        return field.getModifiers().contains(Modifier.FINAL) && field.getConstantValue() != null;
    }

    // ---- rule 3: types

    @Override
    public Void visitVariable(VariableTree tree, Void none) {
        rule("3: the type of " + tree.getName(), isAllowed(here().asType(), 0), tree);
        return super.visitVariable(tree, none);
    }

    private static boolean isAllowed(TypeMirror type, int dimensions) {
        if (type.getKind() == TypeKind.ARRAY) {
            return dimensions < 2 && isAllowed(((ArrayType) type).getComponentType(), dimensions + 1);
        }
        if (type.getKind().isPrimitive()) {
            return true;
        }
        boolean own = type.toString().startsWith(OWN);
        return own && dimensions < 2 || dimensions == 0
            && Set.of("java.lang.String", "java.lang.StringBuilder").contains(type.toString());
    }

    @Override
    public Void visitTypeCast(TypeCastTree tree, Void none) {
        rule("6: a cast of numbers alone", typeOf(tree.getType()).getKind().isPrimitive(), tree);
        return super.visitTypeCast(tree, none);
    }

    // ---- rules 4, 8, 11, 12: methods, calls, and what is made

    @Override
    public Void visitMethod(MethodTree tree, Void none) {
        calls.putIfAbsent(here(), new LinkedHashSet<>());
        rule("11: at most " + PARAMETERS + " parameters", tree.getParameters().size() <= PARAMETERS, tree);
        long begin = unit.getLineMap().getLineNumber(trees.getSourcePositions().getStartPosition(unit, tree));
        rule("11: some " + LINES + " lines", lineOfEnd(tree) - begin < LINES, tree);
        return super.visitMethod(tree, none);
    }

    @Override
    public Void visitMethodInvocation(MethodInvocationTree tree, Void none) {
        called(here(), tree);
        return super.visitMethodInvocation(tree, none);
    }

    private void called(Element method, Tree tree) {
        TypeElement owner = (TypeElement) method.getEnclosingElement();
        boolean own = owner.getQualifiedName().toString().startsWith(OWN);
        boolean above = method.getKind() == ElementKind.CONSTRUCTOR && owner.getSimpleName().contentEquals("Object");
        String name = owner.getSimpleName() + "." + method.getSimpleName();
        rule("4: " + name + " is in the library", own || above || LIBRARY.contains(name), tree);
        rule("8: a static method or a final class", !own || owner.getModifiers().contains(Modifier.FINAL), tree);
        Tree from = around(Tree.Kind.METHOD);
        if (own && from != null) {
            calls.computeIfAbsent(trees.getElement(trees.getPath(unit, from)), e -> new LinkedHashSet<>()).add(method);
        }
    }

    /** Goes from a method through all that it calls, with the methods that are open then. */
    private void goThrough(Element method, Set<Element> open) {
        boolean isNew = open.add(method);
        checks.same("rule 8: " + method + " comes back to itself: " + open, 1, isNew ? 1 : 0);
        checks.same("rule 11: at most " + DEPTH + " calls deep: " + open, 1, open.size() <= DEPTH ? 1 : 0);
        if (isNew && open.size() <= DEPTH) {
            for (Element next : calls.getOrDefault(method, Set.of())) {
                goThrough(next, open);
            }
        }
        if (isNew) {
            open.remove(method);
        }
    }

    @Override
    public Void visitNewClass(NewClassTree tree, Void none) {
        boolean thrown = getCurrentPath().getParentPath().getLeaf() instanceof ThrowTree;
        rule("12: made in a constructor, or thrown", thrown || around(Tree.Kind.METHOD) == null || isInConstructor(), tree);
        if (!thrown) {
            rule("4: of the class's own", typeOf(tree.getIdentifier()).toString().startsWith(OWN), tree);
        }
        return super.visitNewClass(tree, none);
    }

    @Override
    public Void visitNewArray(NewArrayTree tree, Void none) {
        rule("12: made in a constructor", around(Tree.Kind.METHOD) == null || isInConstructor(), tree);
        for (ExpressionTree length : tree.getDimensions()) {
            rule("7: a length that is a constant", constantOf(length) != null, length);
        }
        return super.visitNewArray(tree, none);
    }

    // ---- rules 6 and 7: exceptions, divisors

    @Override
    public Void visitThrow(ThrowTree tree, Void none) {
        boolean made = tree.getExpression() instanceof NewClassTree;
        rule("6: throw new", made, tree);
        rule("6: no throw in a constructor", !isInConstructor(), tree);
        if (made) {
            NewClassTree thrown = (NewClassTree) tree.getExpression();
            rule("6: one of its exceptions", EXCEPTIONS.contains(thrown.getIdentifier().toString()), tree);
            rule("6: a written text", thrown.getArguments().stream().allMatch(a -> a instanceof LiteralTree), tree);
        }
        return super.visitThrow(tree, none);
    }

    @Override
    public Void visitBinary(BinaryTree tree, Void none) {
        TypeMirror type = trees.getTypeMirror(getCurrentPath());
        rule("10: no joining of texts by +", !type.toString().equals("java.lang.String"), tree);
        if (tree.getKind() == Tree.Kind.DIVIDE || tree.getKind() == Tree.Kind.REMAINDER) {
            rule("7: a divisor that is tested: " + tree, isTested(tree.getRightOperand()), tree);
        }
        return super.visitBinary(tree, none);
    }

    /** A divisor is a constant other than 0, or the same condition has looked at it ahead of this. */
    private boolean isTested(ExpressionTree divisor) {
        Object constant = constantOf(divisor);
        if (constant != null) {
            return ((Number) constant).doubleValue() != 0.0;
        }
        for (TreePath path = getCurrentPath(); path != null; path = path.getParentPath()) {
            if (path.getLeaf() instanceof BinaryTree and && and.getKind() == Tree.Kind.CONDITIONAL_AND) {
                return and.getLeftOperand().toString().contains(divisor.toString());
            }
        }
        return false;
    }

    private Object constantOf(ExpressionTree expression) {
        if (expression instanceof LiteralTree literal) {
            return literal.getValue();
        }
        Element named = trees.getElement(new TreePath(getCurrentPath(), expression));
        return named instanceof VariableElement variable ? variable.getConstantValue() : null;
    }

    @Override
    public Void visitCompoundAssignment(CompoundAssignmentTree tree, Void none) {
        boolean divides = Set.of(Tree.Kind.DIVIDE_ASSIGNMENT, Tree.Kind.REMAINDER_ASSIGNMENT).contains(tree.getKind());
        rule("7: a divisor that is tested", !divides || constantOf(tree.getExpression()) != null, tree);
        return super.visitCompoundAssignment(tree, none);
    }

    // ---- rule 9: loops

    @Override
    public Void visitForLoop(ForLoopTree tree, Void none) {
        rule("9: a bound in the loop's own lines", tree.getCondition() != null && isBound(tree.getCondition()), tree);
        return super.visitForLoop(tree, none);
    }

    @Override
    public Void visitWhileLoop(WhileLoopTree tree, Void none) {
        rule("9: a bound in the loop's own lines", isBound(tree.getCondition()), tree);
        return super.visitWhileLoop(tree, none);
    }

    @Override
    public Void visitDoWhileLoop(DoWhileLoopTree tree, Void none) {
        rule("9: a bound in the loop's own lines", isBound(tree.getCondition()), tree);
        return super.visitDoWhileLoop(tree, none);
    }

    /** One of the parts that all have to hold compares by less or more. */
    private static boolean isBound(ExpressionTree condition) {
        ExpressionTree bare = condition;
        while (bare instanceof ParenthesizedTree inner) {
            bare = inner.getExpression();
        }
        if (bare instanceof BinaryTree two && two.getKind() == Tree.Kind.CONDITIONAL_AND) {
            return isBound(two.getLeftOperand()) || isBound(two.getRightOperand());
        }
        return Set.of(Tree.Kind.LESS_THAN, Tree.Kind.GREATER_THAN, Tree.Kind.LESS_THAN_EQUAL,
            Tree.Kind.GREATER_THAN_EQUAL).contains(bare.getKind());
    }

    // ---- rules 2 and 6: what the class does without

    @Override
    public Void visitLambdaExpression(LambdaExpressionTree tree, Void none) {
        rule("2: no lambda", false, tree);
        return super.visitLambdaExpression(tree, none);
    }

    @Override
    public Void visitMemberReference(MemberReferenceTree tree, Void none) {
        rule("2: no method reference", false, tree);
        return super.visitMemberReference(tree, none);
    }

    @Override
    public Void visitTry(TryTree tree, Void none) {
        rule("6: no try", false, tree);
        return super.visitTry(tree, none);
    }

    @Override
    public Void visitCatch(CatchTree tree, Void none) {
        rule("6: no catch", false, tree);
        return super.visitCatch(tree, none);
    }

    @Override
    public Void visitSynchronized(SynchronizedTree tree, Void none) {
        rule("6: no synchronized", false, tree);
        return super.visitSynchronized(tree, none);
    }

    @Override
    public Void visitAssert(AssertTree tree, Void none) {
        rule("6: no assert", false, tree);
        return super.visitAssert(tree, none);
    }

    @Override
    public Void visitInstanceOf(InstanceOfTree tree, Void none) {
        rule("6: no instanceof", false, tree);
        return super.visitInstanceOf(tree, none);
    }
}
