import com.sun.source.tree.AssertTree;
import com.sun.source.tree.BinaryTree;
import com.sun.source.tree.CatchTree;
import com.sun.source.tree.ClassTree;
import com.sun.source.tree.CompilationUnitTree;
import com.sun.source.tree.CompoundAssignmentTree;
import com.sun.source.tree.DoWhileLoopTree;
import com.sun.source.tree.ExpressionTree;
import com.sun.source.tree.ForLoopTree;
import com.sun.source.tree.LambdaExpressionTree;
import com.sun.source.tree.LiteralTree;
import com.sun.source.tree.MemberReferenceTree;
import com.sun.source.tree.MethodInvocationTree;
import com.sun.source.tree.MethodTree;
import com.sun.source.tree.NewArrayTree;
import com.sun.source.tree.NewClassTree;
import com.sun.source.tree.SynchronizedTree;
import com.sun.source.tree.ThrowTree;
import com.sun.source.tree.Tree;
import com.sun.source.tree.TryTree;
import com.sun.source.tree.VariableTree;
import com.sun.source.tree.WhileLoopTree;
import com.sun.source.util.JavacTask;
import com.sun.source.util.SourcePositions;
import com.sun.source.util.TreePath;
import com.sun.source.util.TreePathScanner;
import com.sun.source.util.Trees;
import java.io.IOException;
import java.nio.charset.StandardCharsets;
import java.nio.file.Path;
import java.util.HashMap;
import java.util.HashSet;
import java.util.List;
import java.util.Map;
import java.util.Set;
import java.util.TreeSet;
import javax.lang.model.element.Element;
import javax.lang.model.element.ElementKind;
import javax.lang.model.element.ExecutableElement;
import javax.lang.model.element.Modifier;
import javax.lang.model.type.TypeMirror;
import javax.tools.JavaCompiler;
import javax.tools.StandardJavaFileManager;
import javax.tools.ToolProvider;

/**
 * The rules of LANGUAGE.md that can be seen in the tree of the source; FaceTest has rule 1. Where the class needs less
 * than a rule allows (no list, no catch, no object made outside a constructor), this test allows no more than it needs.
 */
public final class LanguageTest extends TreePathScanner<Void, Void> {
    private static final Set<String> LIBRARY = Set.of("java.lang.String.length()", "java.lang.String.charAt(int)",
            "java.lang.Math.max(int,int)", "java.lang.Math.min(int,int)", "java.lang.Math.abs(int)",
            "java.lang.Integer.bitCount(int)", "java.lang.System.arraycopy(java.lang.Object,int,java.lang.Object,int,int)");
    private static final Set<String> EXCEPTIONS = Set.of("IllegalStateException", "IllegalArgumentException",
            "IndexOutOfBoundsException", "ArithmeticException", "UnsupportedOperationException",
            "NoSuchElementException", "RuntimeException");
    private static final Set<String> CONSTANT_TYPES = Set.of("int", "long", "boolean", "char", "java.lang.String");
    private static final Set<String> TYPES = Set.of("int", "long", "short", "byte", "char", "boolean", "double",
            "float", "void", "int[]", "java.lang.String");

    private final Trees trees;
    private final CompilationUnitTree unit;
    private final Map<String, Set<String>> calls = new HashMap<>();
    private String method;
    private boolean constructor;
    private int classes;

    private LanguageTest(Trees trees, CompilationUnitTree unit) {
        this.trees = trees;
        this.unit = unit;
    }

    public static void main(String[] args) throws IOException {
        Path source = Path.of(System.getProperty("project", "."), "src", "main", "java", "BathBoats.java");
        JavaCompiler compiler = ToolProvider.getSystemJavaCompiler();
        try (StandardJavaFileManager files = compiler.getStandardFileManager(null, null, StandardCharsets.UTF_8)) {
            JavacTask task = (JavacTask) compiler.getTask(null, files, null, List.of("-proc:none"), null,
                    files.getJavaFileObjects(source));
            CompilationUnitTree unit = task.parse().iterator().next();
            task.analyze();
            LanguageTest test = new LanguageTest(Trees.instance(task), unit);
            test.scan(unit, null);
            test.wholes();
        }
        Check.end();
    }

    private void wholes() {
        rule(1, "package", unit.getPackageName() == null);
        rule(11, classes + " classes", classes <= 12);
        Set<String> recursive = new TreeSet<>();
        int deepest = 0;
        for (String name : calls.keySet()) {
            if (reaches(name, name, new HashSet<>())) {
                recursive.add(name.substring(0, name.indexOf('(')));
            }
            deepest = Math.max(deepest, depth(name, new HashSet<>()));
        }
        // these carry their depth as an argument
        Check.part("rule 8");
        Check.due("recursion", recursive.toString(), "[BathBoats.QueryReader.readFactor, BathBoats.QueryReader.readTest]");
        rule(11, "calls " + deepest + " deep", deepest <= 8);
    }

    private boolean reaches(String from, String target, Set<String> seen) {
        for (String next : calls.getOrDefault(from, Set.of())) {
            if (next.equals(target) || seen.add(next) && reaches(next, target, seen)) {
                return true;
            }
        }
        return false;
    }

    /** How many calls stand open at most when one starts here and none stands open twice. */
    private int depth(String from, Set<String> open) {
        if (!open.add(from)) {
            return 0;
        }
        int deepest = 0;
        for (String next : calls.getOrDefault(from, Set.of())) {
            deepest = Math.max(deepest, depth(next, open));
        }
        open.remove(from);
        return deepest + 1;
    }

    private void rule(int number, String what, boolean kept) {
        Check.part("rule " + number);
        Check.due(what + " is kept", kept, true);
    }

    private void banned(int number, Tree tree) {
        rule(number, tree.toString(), false);
    }

    private Element element() {
        return trees.getElement(getCurrentPath());
    }

    private TypeMirror typeOf(Tree tree) {
        return trees.getTypeMirror(new TreePath(getCurrentPath(), tree));
    }

    private long lines(Tree tree) {
        SourcePositions positions = trees.getSourcePositions();
        return 1 + unit.getLineMap().getLineNumber(positions.getEndPosition(unit, tree))
                - unit.getLineMap().getLineNumber(positions.getStartPosition(unit, tree));
    }

    /** Whether the place is in a constructor or in the initialiser of a field. */
    private boolean isMaking() {
        return method == null || constructor;
    }

    @Override
    public Void visitClass(ClassTree tree, Void none) {
        classes++;
        boolean outermost = getCurrentPath().getParentPath().getLeaf() == unit;
        rule(2, tree.getSimpleName() + " is static", outermost || element().getModifiers().contains(Modifier.STATIC));
        int fields = 0;
        for (Tree member : tree.getMembers()) {
            rule(5, "block in " + tree.getSimpleName(), member.getKind() != Tree.Kind.BLOCK);
            if (member instanceof VariableTree
                    && !((VariableTree) member).getModifiers().getFlags().contains(Modifier.STATIC)) {
                fields++;
            }
        }
        rule(11, fields + " fields of " + tree.getSimpleName(), fields <= 20);
        return super.visitClass(tree, none);
    }

    @Override
    public Void visitMethod(MethodTree tree, Void none) {
        method = nameOf(element());
        constructor = element().getKind() == ElementKind.CONSTRUCTOR;
        calls.putIfAbsent(method, new HashSet<>());
        rule(11, method + " has " + lines(tree) + " lines", lines(tree) <= 60);
        rule(11, method + " has few parameters", tree.getParameters().size() <= 7);
        super.visitMethod(tree, none);
        method = null;
        return null;
    }

    private static String nameOf(Element called) {
        return ((javax.lang.model.element.TypeElement) called.getEnclosingElement()).getQualifiedName() + "." + called;
    }

    @Override
    public Void visitVariable(VariableTree tree, Void none) {
        Element field = element();
        String type = field.asType().toString();
        boolean own = type.startsWith("BathBoats.");
        rule(3, "type " + type, own || TYPES.contains(type));
        if (field.getModifiers().contains(Modifier.STATIC)) {
            rule(5, tree.toString(), field.getModifiers().contains(Modifier.FINAL) && CONSTANT_TYPES.contains(type));
        }
        return super.visitVariable(tree, none);
    }

    @Override
    public Void visitMethodInvocation(MethodInvocationTree tree, Void none) {
        Element called = element();
        String name = nameOf(called);
        if (name.startsWith("BathBoats.")) {
            boolean overridable = called.getKind() == ElementKind.METHOD
                    && !called.getEnclosingElement().getModifiers().contains(Modifier.FINAL);
            rule(12, method + " calls " + name, !isMaking() || !overridable);
            if (method != null) {
                calls.get(method).add(name);
            }
        } else if (!called.getSimpleName().contentEquals("<init>")) {
            rule(4, name, LIBRARY.contains(name) && !hasFloat((ExecutableElement) called));
        }
        return super.visitMethodInvocation(tree, none);
    }

    private static boolean hasFloat(ExecutableElement called) {
        return called.toString().contains("float") || called.toString().contains("double");
    }

    @Override
    public Void visitNewClass(NewClassTree tree, Void none) {
        boolean thrown = getCurrentPath().getParentPath().getLeaf() instanceof ThrowTree;
        rule(12, tree + " in " + method, thrown || isMaking());
        return super.visitNewClass(tree, none);
    }

    @Override
    public Void visitNewArray(NewArrayTree tree, Void none) {
        rule(12, tree + " in " + method, isMaking());
        return super.visitNewArray(tree, none);
    }

    @Override
    public Void visitThrow(ThrowTree tree, Void none) {
        boolean made = tree.getExpression() instanceof NewClassTree;
        rule(6, tree.toString(), made && isWrittenException((NewClassTree) tree.getExpression()));
        rule(6, "throw in " + method, !isMaking());
        return super.visitThrow(tree, none);
    }

    private static boolean isWrittenException(NewClassTree tree) {
        for (ExpressionTree argument : tree.getArguments()) {
            if (argument.getKind() != Tree.Kind.STRING_LITERAL) {
                return false;
            }
        }
        return tree.getArguments().size() <= 1 && EXCEPTIONS.contains(tree.getIdentifier().toString());
    }

    @Override
    public Void visitTry(TryTree tree, Void none) {
        rule(6, tree.toString(), tree.getFinallyBlock() == null && tree.getResources().isEmpty());
        return super.visitTry(tree, none);
    }

    @Override
    public Void visitCatch(CatchTree tree, Void none) {
        banned(6, tree);
        return super.visitCatch(tree, none);
    }

    @Override
    public Void visitBinary(BinaryTree tree, Void none) {
        boolean text = typeOf(tree.getLeftOperand()).toString().equals("java.lang.String")
                || typeOf(tree.getRightOperand()).toString().equals("java.lang.String");
        rule(10, tree.toString(), !text);
        boolean real = isReal(tree.getLeftOperand()) || isReal(tree.getRightOperand());
        rule(3, tree.toString(), !real || tree.getKind() != Tree.Kind.REMAINDER);
        return super.visitBinary(tree, none);
    }

    @Override
    public Void visitCompoundAssignment(CompoundAssignmentTree tree, Void none) {
        rule(10, tree.toString(), !typeOf(tree.getVariable()).toString().equals("java.lang.String"));
        rule(3, tree.toString(), isReal(tree.getVariable()) || !isReal(tree.getExpression()));
        return super.visitCompoundAssignment(tree, none);
    }

    private boolean isReal(Tree tree) {
        String type = typeOf(tree).toString();
        return type.equals("float") || type.equals("double");
    }

    @Override
    public Void visitLiteral(LiteralTree tree, Void none) {
        if (tree.getKind() == Tree.Kind.STRING_LITERAL) {
            rule(4, "text " + tree, tree.getValue().toString().chars().allMatch(c -> c >= 1 && c <= 127));
        }
        return super.visitLiteral(tree, none);
    }

    @Override
    public Void visitForLoop(ForLoopTree tree, Void none) {
        rule(9, tree.toString(), tree.getCondition() != null && !tree.getUpdate().isEmpty());
        return super.visitForLoop(tree, none);
    }

    @Override
    public Void visitWhileLoop(WhileLoopTree tree, Void none) {
        rule(9, tree.toString(), tree.getCondition().toString().contains(" < "));
        return super.visitWhileLoop(tree, none);
    }

    @Override
    public Void visitDoWhileLoop(DoWhileLoopTree tree, Void none) {
        rule(9, tree.toString(), tree.getCondition().toString().contains(" < "));
        return super.visitDoWhileLoop(tree, none);
    }

    @Override
    public Void visitLambdaExpression(LambdaExpressionTree tree, Void none) {
        banned(2, tree);
        return super.visitLambdaExpression(tree, none);
    }

    @Override
    public Void visitMemberReference(MemberReferenceTree tree, Void none) {
        banned(2, tree);
        return super.visitMemberReference(tree, none);
    }

    @Override
    public Void visitSynchronized(SynchronizedTree tree, Void none) {
        banned(6, tree);
        return super.visitSynchronized(tree, none);
    }

    @Override
    public Void visitAssert(AssertTree tree, Void none) {
        banned(6, tree);
        return super.visitAssert(tree, none);
    }
}
