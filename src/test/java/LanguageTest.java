import com.sun.source.tree.ArrayTypeTree;
import com.sun.source.tree.AssertTree;
import com.sun.source.tree.BinaryTree;
import com.sun.source.tree.ClassTree;
import com.sun.source.tree.CompilationUnitTree;
import com.sun.source.tree.CompoundAssignmentTree;
import com.sun.source.tree.DoWhileLoopTree;
import com.sun.source.tree.EnhancedForLoopTree;
import com.sun.source.tree.ExpressionTree;
import com.sun.source.tree.ForLoopTree;
import com.sun.source.tree.ImportTree;
import com.sun.source.tree.LambdaExpressionTree;
import com.sun.source.tree.MemberReferenceTree;
import com.sun.source.tree.MethodInvocationTree;
import com.sun.source.tree.MethodTree;
import com.sun.source.tree.NewArrayTree;
import com.sun.source.tree.NewClassTree;
import com.sun.source.tree.SynchronizedTree;
import com.sun.source.tree.ThrowTree;
import com.sun.source.tree.Tree;
import com.sun.source.tree.TryTree;
import com.sun.source.tree.VariableTree;
import com.sun.source.tree.WhileLoopTree;
import com.sun.source.util.JavacTask;
import com.sun.source.util.TreePath;
import com.sun.source.util.TreePathScanner;
import com.sun.source.util.Trees;
import java.io.IOException;
import java.nio.file.Files;
import java.nio.file.Path;
import java.util.ArrayList;
import java.util.List;
import java.util.Map;
import java.util.Set;
import java.util.TreeMap;
import java.util.TreeSet;
import javax.lang.model.element.Element;
import javax.lang.model.element.ExecutableElement;
import javax.lang.model.element.Modifier;
import javax.lang.model.element.TypeElement;
import javax.lang.model.element.VariableElement;
import javax.lang.model.type.ArrayType;
import javax.lang.model.type.TypeKind;
import javax.lang.model.type.TypeMirror;
import javax.tools.JavaCompiler;
import javax.tools.StandardJavaFileManager;
import javax.tools.ToolProvider;

/** The rules of LANGUAGE.md, by number, as the compiler's own tree of the file shows them. */
public final class LanguageTest {
    private static final Path SOURCE = Path.of("src/main/java/OddCancel.java");
    private static final int CALLS_DEEP = 8;
    private static final int METHOD_LINES = 60;
    private static final int PARAMETERS = 7;
    private static final int CLASSES = 12;
    private static final int FIELDS = 20;
    /** What the file uses of rule 4's list. */
    private static final Set<String> LIBRARY = Set.of("java.lang.Object.<init>", "java.lang.String.length",
        "java.lang.String.charAt", "java.lang.Math.max", "java.lang.Math.min", "java.lang.Integer.bitCount",
        "java.lang.System.arraycopy", "java.util.Arrays.fill");
    /** Methods that may come to themselves again: as deep as a GAME has turns. */
    private static final Set<String> RECURSIVE = Set.of("OddCancel.Brothers.best", "OddCancel.Brothers.takenThen");
    /** The only divisors that are no constants; both are made 1 or more right ahead. */
    private static final Set<String> DIVISORS = Set.of("divisor", "rest");

    private static final Kit KIT = new Kit();

    private final Map<String, Set<String>> calls = new TreeMap<>();
    private final CompilationUnitTree unit;
    private final Trees trees;

    private LanguageTest(CompilationUnitTree unit, Trees trees) {
        this.unit = unit;
        this.trees = trees;
    }

    /** What it says of each tree comes to KIT; it also notes who calls whom. */
    private final class Look extends TreePathScanner<Void, Void> {
        private String method = "";
        private int loops;
        private int classes;

        private long lineOf(Tree tree) {
            return unit.getLineMap().getLineNumber(trees.getSourcePositions().getStartPosition(unit, tree));
        }

        private long lastLineOf(Tree tree) {
            return unit.getLineMap().getLineNumber(trees.getSourcePositions().getEndPosition(unit, tree));
        }

        private void never(int rule, Tree tree) {
            KIT.due("rule " + rule + ", line " + lineOf(tree) + ": " + tree.getKind(), true, false);
        }

        private void due(int rule, Tree tree, String what, boolean holds) {
            KIT.due("rule " + rule + ", line " + lineOf(tree) + ": " + what, holds, true);
        }

        private TypeMirror typeOf(Tree tree) {
            return trees.getTypeMirror(new TreePath(getCurrentPath(), tree));
        }

        @Override public Void visitClass(ClassTree tree, Void none) {
            classes++;
            Set<Modifier> flags = tree.getModifiers().getFlags();
            Tree above = getCurrentPath().getParentPath().getLeaf();
            boolean outer = above instanceof CompilationUnitTree;
            due(2, tree, "a class inside the class", outer || above instanceof ClassTree);
            due(2, tree, "static", outer || flags.contains(Modifier.STATIC));
            due(1, tree, "private or package-visible",
                outer || !flags.contains(Modifier.PUBLIC) && !flags.contains(Modifier.PROTECTED));
            int fields = 0;
            for (Tree member : tree.getMembers()) {
                boolean field = member instanceof VariableTree v
                    && !v.getModifiers().getFlags().contains(Modifier.STATIC);
                fields += field ? 1 : 0;
                due(5, member, "no initialiser block", member.getKind() != Tree.Kind.BLOCK);
            }
            due(11, tree, fields + " fields of " + tree.getSimpleName(), fields <= FIELDS);
            return super.visitClass(tree, none);
        }

        @Override public Void visitMethod(MethodTree tree, Void none) {
            String ahead = method;
            Element element = trees.getElement(getCurrentPath());
            method = named((ExecutableElement) element);
            calls.computeIfAbsent(method, k -> new TreeSet<>());
            due(11, tree, "parameters of " + method, tree.getParameters().size() <= PARAMETERS);
            due(11, tree, "lines of " + method, lastLineOf(tree) - lineOf(tree) < METHOD_LINES);
            due(6, tree, "throws nothing", tree.getThrows().isEmpty());
            super.visitMethod(tree, none);
            method = ahead;
            return null;
        }

        @Override public Void visitVariable(VariableTree tree, Void none) {
            VariableElement element = (VariableElement) trees.getElement(getCurrentPath());
            due(3, tree, "type " + element.asType(), isFine(element.asType()));
            if (element.getModifiers().contains(Modifier.STATIC)) {
                due(5, tree, "a constant: " + tree.getName(), element.getModifiers().contains(Modifier.FINAL)
                    && element.getConstantValue() != null);
            }
            return super.visitVariable(tree, none);
        }

        @Override public Void visitMethodInvocation(MethodInvocationTree tree, Void none) {
            ExecutableElement element = (ExecutableElement) trees.getElement(getCurrentPath());
            String called = named(element);
            if (isOwn(element)) {
                calls.computeIfAbsent(method, k -> new TreeSet<>()).add(called);
            } else {
                due(4, tree, "library: " + called, LIBRARY.contains(called));
            }
            return super.visitMethodInvocation(tree, none);
        }

        @Override public Void visitNewClass(NewClassTree tree, Void none) {
            due(2, tree, "no anonymous class", tree.getClassBody() == null);
            ExecutableElement element = (ExecutableElement) trees.getElement(getCurrentPath());
            due(4, tree, "made: " + named(element), isOwn(element));
            due(12, tree, "made by a constructor", isMaking());
            calls.computeIfAbsent(method, k -> new TreeSet<>()).add(named(element));
            return super.visitNewClass(tree, none);
        }

        /** In a constructor or where a field is declared: calls make nothing. */
        private boolean isMaking() {
            return method.isEmpty() || method.endsWith("<init>");
        }

        @Override public Void visitNewArray(NewArrayTree tree, Void none) {
            due(12, tree, "made by a constructor", isMaking());
            return super.visitNewArray(tree, none);
        }

        @Override public Void visitBinary(BinaryTree tree, Void none) {
            boolean divides = tree.getKind() == Tree.Kind.DIVIDE || tree.getKind() == Tree.Kind.REMAINDER;
            due(7, tree, "divisor " + tree.getRightOperand(), !divides || isSafe(tree.getRightOperand()));
            boolean alike = tree.getKind() == Tree.Kind.EQUAL_TO || tree.getKind() == Tree.Kind.NOT_EQUAL_TO;
            due(6, tree, "numbers alone are held against each other",
                !alike || typeOf(tree.getLeftOperand()).getKind().isPrimitive());
            due(10, tree, "no joined texts", typeOf(tree.getLeftOperand()).getKind().isPrimitive()
                && typeOf(tree.getRightOperand()).getKind().isPrimitive());
            return super.visitBinary(tree, none);
        }

        @Override public Void visitCompoundAssignment(CompoundAssignmentTree tree, Void none) {
            due(7, tree, "no dividing in place", tree.getKind() != Tree.Kind.DIVIDE_ASSIGNMENT
                && tree.getKind() != Tree.Kind.REMAINDER_ASSIGNMENT);
            return super.visitCompoundAssignment(tree, none);
        }

        private boolean isSafe(ExpressionTree divisor) {
            Element element = trees.getElement(new TreePath(getCurrentPath(), divisor));
            boolean constant = divisor.getKind() == Tree.Kind.INT_LITERAL
                || element instanceof VariableElement v && v.getConstantValue() != null;
            return constant || DIVISORS.contains(divisor.toString());
        }

        @Override public Void visitForLoop(ForLoopTree tree, Void none) {
            loops++;
            due(9, tree, "a for loop's bound", tree.getCondition() != null && compares(tree.getCondition()));
            return super.visitForLoop(tree, none);
        }

        @Override public Void visitWhileLoop(WhileLoopTree tree, Void none) {
            loops++;
            due(9, tree, "a while loop's bound", compares(tree.getCondition()));
            return super.visitWhileLoop(tree, none);
        }

        private boolean compares(ExpressionTree condition) {
            return condition.toString().matches("(?s).* (<|<=|>|>=) .*");
        }

        @Override public Void visitDoWhileLoop(DoWhileLoopTree tree, Void none) {
            never(9, tree);
            return super.visitDoWhileLoop(tree, none);
        }

        @Override public Void visitEnhancedForLoop(EnhancedForLoopTree tree, Void none) {
            due(9, tree, "over an array", typeOf(tree.getExpression()).getKind() == TypeKind.ARRAY);
            return super.visitEnhancedForLoop(tree, none);
        }

        @Override public Void visitLambdaExpression(LambdaExpressionTree tree, Void none) {
            never(2, tree);
            return null;
        }

        @Override public Void visitMemberReference(MemberReferenceTree tree, Void none) {
            never(2, tree);
            return null;
        }

        @Override public Void visitThrow(ThrowTree tree, Void none) {
            never(6, tree);
            return null;
        }

        @Override public Void visitTry(TryTree tree, Void none) {
            never(6, tree);
            return null;
        }

        @Override public Void visitAssert(AssertTree tree, Void none) {
            never(6, tree);
            return null;
        }

        @Override public Void visitSynchronized(SynchronizedTree tree, Void none) {
            never(6, tree);
            return null;
        }

        @Override public Void visitArrayType(ArrayTypeTree tree, Void none) {
            due(3, tree, "one dimension", tree.getType().getKind() != Tree.Kind.ARRAY_TYPE);
            return super.visitArrayType(tree, none);
        }
    }

    private static boolean isOwn(Element element) {
        return element.getEnclosingElement().toString().startsWith("OddCancel");
    }

    private static String named(ExecutableElement element) {
        return ((TypeElement) element.getEnclosingElement()).getQualifiedName() + "." + element.getSimpleName();
    }

    private static boolean isFine(TypeMirror type) {
        if (type.getKind() == TypeKind.ARRAY) {
            return isFine(((ArrayType) type).getComponentType());
        }
        boolean broken = type.getKind() == TypeKind.FLOAT || type.getKind() == TypeKind.DOUBLE;
        String name = type.toString();
        return type.getKind().isPrimitive() && !broken || name.equals("java.lang.String") || name.startsWith("OddCancel");
    }

    /** The longest way of calls from a method on, itself among them; a call round is counted once. */
    private List<String> deepest(String method, List<String> open) {
        List<String> best = new ArrayList<>();
        List<String> here = new ArrayList<>(open);
        here.add(method);
        for (String called : calls.getOrDefault(method, Set.of())) {
            if (here.contains(called)) {
                KIT.due("rule 8: comes to itself again: " + called, RECURSIVE.contains(called), true);
                continue;
            }
            List<String> way = deepest(called, here);
            if (way.size() > best.size()) {
                best = way;
            }
        }
        best.add(0, method);
        return best;
    }

    private void depths() {
        for (String method : calls.keySet()) {
            List<String> way = deepest(method, List.of());
            KIT.due("rule 11: calls go " + way.size() + " deep: " + way, way.size() <= CALLS_DEEP, true);
        }
    }

    private void imports() {
        for (ImportTree one : unit.getImports()) {
            KIT.due("rule 4: " + one, one.getQualifiedIdentifier().toString().equals("java.util.Arrays"), true);
        }
        KIT.due("rule 1: no package", unit.getPackageName() == null, true);
        KIT.due("rule 1: one class in the file", unit.getTypeDecls().size(), 1);
    }

    public static void main(String[] args) throws IOException {
        JavaCompiler compiler = ToolProvider.getSystemJavaCompiler();
        try (StandardJavaFileManager files = compiler.getStandardFileManager(null, null, null)) {
            JavacTask task = (JavacTask) compiler.getTask(null, files, null, List.of("-proc:none"), null,
                files.getJavaFileObjects(SOURCE));
            CompilationUnitTree unit = task.parse().iterator().next();
            task.analyze();
            LanguageTest test = new LanguageTest(unit, Trees.instance(task));
            Look look = test.new Look();
            look.scan(unit, null);
            KIT.due("rule 11: " + look.classes + " classes", look.classes > 1 && look.classes <= CLASSES, true);
            KIT.due("loops were seen", look.loops > 0, true);
            test.imports();
            test.depths();
        }
        KIT.due("signs of the file", Files.readString(SOURCE).chars().allMatch(c -> c == '\n' || c >= 32 && c < 127), true);
        KIT.end("LanguageTest");
    }
}
