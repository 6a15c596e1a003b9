import com.sun.source.tree.AssertTree;
import com.sun.source.tree.BinaryTree;
import com.sun.source.tree.BlockTree;
import com.sun.source.tree.ClassTree;
import com.sun.source.tree.CompilationUnitTree;
import com.sun.source.tree.DoWhileLoopTree;
import com.sun.source.tree.ExpressionTree;
import com.sun.source.tree.ForLoopTree;
import com.sun.source.tree.IdentifierTree;
import com.sun.source.tree.ImportTree;
import com.sun.source.tree.InstanceOfTree;
import com.sun.source.tree.LambdaExpressionTree;
import com.sun.source.tree.LiteralTree;
import com.sun.source.tree.MemberReferenceTree;
import com.sun.source.tree.MemberSelectTree;
import com.sun.source.tree.MethodInvocationTree;
import com.sun.source.tree.MethodTree;
import com.sun.source.tree.NewArrayTree;
import com.sun.source.tree.NewClassTree;
import com.sun.source.tree.SynchronizedTree;
import com.sun.source.tree.ThrowTree;
import com.sun.source.tree.Tree;
import com.sun.source.tree.TryTree;
import com.sun.source.tree.TypeCastTree;
import com.sun.source.tree.VariableTree;
import com.sun.source.tree.WhileLoopTree;
import com.sun.source.util.JavacTask;
import com.sun.source.util.TreePathScanner;
import com.sun.source.util.Trees;
import java.nio.file.Path;
import java.util.HashSet;
import java.util.List;
import java.util.Map;
import java.util.Set;
import java.util.TreeMap;
import java.util.TreeSet;
import javax.lang.model.element.Modifier;
import javax.tools.JavaCompiler;
import javax.tools.StandardJavaFileManager;
import javax.tools.ToolProvider;

/**
 * The rules of LANGUAGE.md that can be counted or seen in the source: what is outside of them is told
 * with the rule's number. Of what the rules leave but the class has no need of (try, instanceof, doubles,
 * other functions of the library) it is asked that it isn't there: whoever needs it has to look at the
 * rule again. That a loop ends and that an index is in its array, only a reader can see.
 */
public final class LanguageTest extends TreePathScanner<Void, Void> {
    private static final Path SOURCE = Path.of("src/main/java/PlaneBlocks.java");
    private static final Set<String> THROWN = Set.of("IllegalStateException", "IllegalArgumentException",
        "IndexOutOfBoundsException", "ArithmeticException", "UnsupportedOperationException",
        "NoSuchElementException", "RuntimeException");
    private static final Set<String> LIBRARY = Set.of("Arrays.fill", "Arrays.copyOf", "Arrays.copyOfRange",
        "System.arraycopy", "Math.max", "Math.min", "Math.abs", "Integer.signum", "Integer.numberOfLeadingZeros");
    private static final Set<String> LIBRARY_CLASSES = Set.of("Arrays", "System", "Math", "Integer", "Long");
    private static final int MOST_PARAMETERS = 7;
    private static final int MOST_LINES = 60;
    private static final int MOST_CLASSES = 12;
    private static final int MOST_FIELDS = 20;
    private static final int MOST_DEPTH = 8;

    private final CompilationUnitTree unit;
    private final Trees trees;
    private final Map<String, Set<String>> calls = new TreeMap<>();
    private final Set<String> publicNames = new TreeSet<>();
    private final Set<String> privateNames = new TreeSet<>();
    private int classes = 0;
    private int methods = 0;
    private int wrong = 0;
    private String method = "";
    private boolean inConstructor = false;

    private LanguageTest(CompilationUnitTree unit, Trees trees) {
        this.unit = unit;
        this.trees = trees;
    }

    private void broken(int rule, Tree where, String what) {
        wrong++;
        System.out.println("rule " + rule + ", line " + line(start(where)) + ": " + what);
    }

    private long start(Tree tree) {
        return trees.getSourcePositions().getStartPosition(unit, tree);
    }

    private long line(long position) {
        return unit.getLineMap().getLineNumber(Math.max(0, position));
    }

    private long lines(Tree tree) {
        return line(trees.getSourcePositions().getEndPosition(unit, tree)) - line(start(tree)) + 1;
    }

    private void check(boolean holds, int rule, Tree where, String what) {
        if (!holds) {
            broken(rule, where, what);
        }
    }

    // ---- classes and fields ----
    @Override
    public Void visitImport(ImportTree tree, Void none) {
        String name = tree.getQualifiedIdentifier().toString();
        check(Set.of("java.util.Arrays", "java.util.ArrayList", "java.util.List").contains(name), 4, tree, name);
        return super.visitImport(tree, none);
    }

    @Override
    public Void visitClass(ClassTree tree, Void none) {
        classes++;
        Set<Modifier> flags = tree.getModifiers().getFlags();
        if (classes == 1) {
            check(flags.equals(Set.of(Modifier.PUBLIC, Modifier.FINAL)), 1, tree, "the class is public and final");
        } else {
            check(flags.contains(Modifier.STATIC) && !flags.contains(Modifier.PUBLIC)
                && !flags.contains(Modifier.PROTECTED), 1, tree, "a class inside is not as it should be");
            check(method.isEmpty(), 2, tree, "a class inside of a method");
        }
        int fields = 0;
        for (Tree member : tree.getMembers()) {
            check(!(member instanceof BlockTree), 5, member, "an initialiser block");
            if (member instanceof VariableTree field) {
                boolean constant = field.getModifiers().getFlags().contains(Modifier.STATIC);
                fields += constant ? 0 : 1;
                check(!constant || isConstant(field), 5, field, "a static field that is not a written constant");
            }
        }
        check(fields <= MOST_FIELDS, 11, tree, fields + " fields");
        return super.visitClass(tree, none);
    }

    private static boolean isConstant(VariableTree field) {
        boolean isFinal = field.getModifiers().getFlags().contains(Modifier.FINAL);
        String type = field.getType().toString();
        if (type.endsWith("[]")) {
            return isFinal && Set.of("int[]", "long[]", "char[]", "byte[]").contains(type)
                && field.getInitializer() instanceof NewArrayTree;
        }
        return isFinal && Set.of("int", "long", "boolean", "char", "String").contains(type);
    }

    @Override
    public Void visitVariable(VariableTree tree, Void none) {
        String type = String.valueOf(tree.getType());
        check(!Set.of("var", "Object", "double", "float").contains(type) && !type.endsWith("[][]"), 3, tree, type);
        return super.visitVariable(tree, none);
    }

    // ---- methods ----
    @Override
    public Void visitMethod(MethodTree tree, Void none) {
        String name = tree.getName().toString();
        Set<Modifier> flags = tree.getModifiers().getFlags();
        methods++;
        (flags.contains(Modifier.PUBLIC) ? publicNames : privateNames).add(name);
        check(!Set.of("equals", "hashCode", "toString").contains(name), 6, tree, name);
        check(tree.getParameters().size() <= MOST_PARAMETERS, 11, tree, tree.getParameters().size() + " parameters");
        check(tree.getBody() == null || lines(tree) <= MOST_LINES, 11, tree, lines(tree) + " lines");
        method = name;
        inConstructor = tree.getReturnType() == null;
        calls.computeIfAbsent(method, key -> new TreeSet<>());
        super.visitMethod(tree, none);
        method = "";
        inConstructor = false;
        return none;
    }

    @Override
    public Void visitMethodInvocation(MethodInvocationTree tree, Void none) {
        ExpressionTree called = tree.getMethodSelect();
        String name = called.toString();
        if (called instanceof MemberSelectTree select && LIBRARY_CLASSES.contains(select.getExpression().toString())) {
            check(LIBRARY.contains(name), 4, tree, name);
        }
        String last = name.substring(name.lastIndexOf('.') + 1);
        if (!last.equals("super") && !method.isEmpty()) {
            calls.get(method).add(last);
            check(!inConstructor, 12, tree, "a constructor calls " + last);
        }
        return super.visitMethodInvocation(tree, none);
    }

    // ---- what is not there ----
    @Override
    public Void visitThrow(ThrowTree tree, Void none) {
        boolean plain = tree.getExpression() instanceof NewClassTree made
            && THROWN.contains(made.getIdentifier().toString())
            && made.getArguments().stream().allMatch(each -> each instanceof LiteralTree);
        check(plain, 6, tree, "a throw of something else than a new exception with a written text");
        check(!inConstructor, 6, tree, "a throw in a constructor");
        return super.visitThrow(tree, none);
    }

    @Override
    public Void visitTry(TryTree tree, Void none) {
        broken(7, tree, "a try: nothing in this class has to be caught");
        return super.visitTry(tree, none);
    }

    @Override
    public Void visitLambdaExpression(LambdaExpressionTree tree, Void none) {
        broken(2, tree, "a lambda");
        return super.visitLambdaExpression(tree, none);
    }

    @Override
    public Void visitMemberReference(MemberReferenceTree tree, Void none) {
        broken(2, tree, "a method reference");
        return super.visitMemberReference(tree, none);
    }

    @Override
    public Void visitSynchronized(SynchronizedTree tree, Void none) {
        broken(6, tree, "synchronized");
        return super.visitSynchronized(tree, none);
    }

    @Override
    public Void visitAssert(AssertTree tree, Void none) {
        broken(6, tree, "assert");
        return super.visitAssert(tree, none);
    }

    @Override
    public Void visitInstanceOf(InstanceOfTree tree, Void none) {
        broken(6, tree, "instanceof: no class here has to be told from another");
        return super.visitInstanceOf(tree, none);
    }

    @Override
    public Void visitTypeCast(TypeCastTree tree, Void none) {
        check(Set.of("int", "long").contains(tree.getType().toString()), 6, tree, "a cast to " + tree.getType());
        return super.visitTypeCast(tree, none);
    }

    @Override
    public Void visitBinary(BinaryTree tree, Void none) {
        boolean divides = tree.getKind() == Tree.Kind.DIVIDE || tree.getKind() == Tree.Kind.REMAINDER;
        ExpressionTree right = tree.getRightOperand();
        boolean written = right instanceof LiteralTree || right instanceof IdentifierTree constant
            && constant.getName().toString().equals(constant.getName().toString().toUpperCase());
        check(!divides || written, 7, tree, "a divisor that is no written constant");
        return super.visitBinary(tree, none);
    }

    // ---- loops ----
    @Override
    public Void visitForLoop(ForLoopTree tree, Void none) {
        counted(tree, tree.getCondition());
        return super.visitForLoop(tree, none);
    }

    @Override
    public Void visitWhileLoop(WhileLoopTree tree, Void none) {
        counted(tree, tree.getCondition());
        return super.visitWhileLoop(tree, none);
    }

    @Override
    public Void visitDoWhileLoop(DoWhileLoopTree tree, Void none) {
        counted(tree, tree.getCondition());
        return super.visitDoWhileLoop(tree, none);
    }

    private void counted(Tree loop, ExpressionTree condition) {
        String text = String.valueOf(condition);
        check(text.contains("<") || text.contains(">"), 9, loop, "a loop without a counter against a bound");
    }

    // ---- the whole ----
    private int depth(String name, Set<String> open) {
        if (!calls.containsKey(name)) {
            return 1;
        }
        if (!open.add(name)) {
            wrong++;
            System.out.println("rule 8: " + name + " may call itself, by way of " + open);
            return 0;
        }
        int deepest = 0;
        for (String called : calls.get(name)) {
            deepest = Math.max(deepest, depth(called, open));
        }
        open.remove(name);
        return deepest + 1;
    }

    private void whole() {
        check(classes <= MOST_CLASSES, 11, unit, classes + " classes");
        for (String name : publicNames) {
            check(name.equals("<init>") || !privateNames.contains(name), 1, unit,
                name + " is the name of a private method too");
            int deep = depth(name, new HashSet<>());
            check(deep <= MOST_DEPTH, 11, unit, name + " goes " + deep + " deep");
        }
    }

    public static void main(String[] args) throws Exception {
        JavaCompiler javac = ToolProvider.getSystemJavaCompiler();
        try (StandardJavaFileManager files = javac.getStandardFileManager(null, null, null)) {
            JavacTask task = (JavacTask) javac.getTask(null, files, null, List.of("--release", "17"), null,
                files.getJavaFileObjects(SOURCE));
            CompilationUnitTree unit = task.parse().iterator().next();
            LanguageTest test = new LanguageTest(unit, Trees.instance(task));
            check(unit, test);
            System.out.println(test.classes + " classes and " + test.methods + " methods, " + test.wrong
                + " outside of the rules");
            if (test.wrong != 0 || test.methods == 0) {
                System.exit(1);
            }
        }
    }

    private static void check(CompilationUnitTree unit, LanguageTest test) {
        test.check(unit.getPackageName() == null, 1, unit, "a package line");
        test.scan(unit, null);
        test.whole();
    }
}
