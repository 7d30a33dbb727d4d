import com.sun.source.tree.ArrayAccessTree;
import com.sun.source.tree.AssertTree;
import com.sun.source.tree.BinaryTree;
import com.sun.source.tree.BlockTree;
import com.sun.source.tree.ClassTree;
import com.sun.source.tree.CompilationUnitTree;
import com.sun.source.tree.CompoundAssignmentTree;
import com.sun.source.tree.DoWhileLoopTree;
import com.sun.source.tree.ForLoopTree;
import com.sun.source.tree.LambdaExpressionTree;
import com.sun.source.tree.LiteralTree;
import com.sun.source.tree.MemberReferenceTree;
import com.sun.source.tree.MethodInvocationTree;
import com.sun.source.tree.MethodTree;
import com.sun.source.tree.NewArrayTree;
import com.sun.source.tree.NewClassTree;
import com.sun.source.tree.SynchronizedTree;
import com.sun.source.tree.ThrowTree;
import com.sun.source.tree.Tree;
import com.sun.source.tree.TryTree;
import com.sun.source.tree.TypeCastTree;
import com.sun.source.tree.VariableTree;
import com.sun.source.tree.WhileLoopTree;
import com.sun.source.util.JavacTask;
import com.sun.source.util.TreePathScanner;
import com.sun.source.util.Trees;
import java.io.IOException;
import java.nio.file.Path;
import java.util.HashSet;
import java.util.List;
import java.util.Map;
import java.util.Set;
import java.util.TreeMap;
import java.util.TreeSet;
import javax.lang.model.element.Element;
import javax.lang.model.element.ElementKind;
import javax.lang.model.element.Modifier;
import javax.lang.model.element.VariableElement;
import javax.lang.model.type.ArrayType;
import javax.lang.model.type.TypeKind;
import javax.lang.model.type.TypeMirror;
import javax.tools.JavaCompiler;
import javax.tools.StandardJavaFileManager;
import javax.tools.ToolProvider;

/**
 * The rules of ../shared/LANGUAGE.md that can be read off the compiler's tree of the class. Where the class needs
 * less than a rule leaves (no throw, no recursion, all objects made with the first), the test holds it to less.
 */
public final class LanguageTest extends TreePathScanner<Void, Void> {
    private static final Due T = new Due();
    private static final int CLASSES = 12, FIELDS = 20, PARAMETERS = 7, LINES = 60, DEPTH = 8;
    private static final Set<String> LIBRARY = Set.of("Math.max", "Math.min", "Math.abs", "Integer.bitCount");

    private final Trees trees;
    private final CompilationUnitTree unit;
    private final Map<String, Set<String>> calls = new TreeMap<>();
    private int classes = 0;
    private MethodTree method = null;
    private String caller = "";

    private LanguageTest(Trees trees, CompilationUnitTree unit) {
        this.trees = trees;
        this.unit = unit;
    }

    private void check(String rule, Tree at, boolean holds) {
        long line = unit.getLineMap().getLineNumber(trees.getSourcePositions().getStartPosition(unit, at));
        T.due("rule " + rule + ", line " + line + ": " + at.toString().split("\n")[0], holds ? 1 : 0, 1);
    }

    private long linesOf(Tree tree) {
        long first = trees.getSourcePositions().getStartPosition(unit, tree);
        long last = trees.getSourcePositions().getEndPosition(unit, tree);
        return unit.getLineMap().getLineNumber(last) - unit.getLineMap().getLineNumber(first) + 1;
    }

    private static boolean isOwn(Element element) {
        Element outer = element;
        while (outer.getEnclosingElement() != null && outer.getEnclosingElement().getKind() != ElementKind.PACKAGE) {
            outer = outer.getEnclosingElement();
        }
        return outer.getSimpleName().contentEquals("BaubleHill");
    }

    private static boolean isAllowed(TypeMirror type) {
        if (type.getKind() == TypeKind.ARRAY) {
            return ((ArrayType) type).getComponentType().getKind().isPrimitive();
        }
        boolean text = type.toString().equals("java.lang.String");
        return type.getKind().isPrimitive() || text || type.toString().startsWith("BaubleHill");
    }

    @Override
    public Void visitClass(ClassTree tree, Void none) {
        classes++;
        check("2", tree, trees.getElement(getCurrentPath()).getKind() == ElementKind.CLASS);
        int fields = 0;
        for (Tree member : tree.getMembers()) {
            boolean field = member instanceof VariableTree;
            if (field && !((VariableTree) member).getModifiers().getFlags().contains(Modifier.STATIC)) fields++;
            check("5 (no static block)", member, !(member instanceof BlockTree));
        }
        check("11 (fields)", tree, fields <= FIELDS);
        return super.visitClass(tree, none);
    }

    @Override
    public Void visitMethod(MethodTree tree, Void none) {
        method = tree;
        caller = nameOf(trees.getElement(getCurrentPath()));
        calls.putIfAbsent(caller, new TreeSet<>());
        check("11 (parameters)", tree, tree.getParameters().size() <= PARAMETERS);
        check("11 (lines)", tree, linesOf(tree) <= LINES);
        super.visitMethod(tree, none);
        method = null;
        return null;
    }

    private static String nameOf(Element method) {
        return method.getEnclosingElement().getSimpleName() + "." + method.getSimpleName();
    }

    @Override
    public Void visitVariable(VariableTree tree, Void none) {
        Element variable = trees.getElement(getCurrentPath());
        check("3", tree, isAllowed(variable.asType()));
        if (variable.getKind() == ElementKind.FIELD && variable.getModifiers().contains(Modifier.STATIC)) {
            boolean constant = variable.getModifiers().contains(Modifier.FINAL)
                && ((VariableElement) variable).getConstantValue() != null;
            check("5 (static fields)", tree, constant);
        }
        return super.visitVariable(tree, none);
    }

    @Override
    public Void visitMethodInvocation(MethodInvocationTree tree, Void none) {
        Element called = trees.getElement(getCurrentPath());
        if (called.getKind() != ElementKind.CONSTRUCTOR) {
            String name = nameOf(called);
            check("4", tree, isOwn(called) || LIBRARY.contains(name));
            check("12 (constructors call nothing)", tree, method != null && !caller.endsWith("<init>"));
            calls.computeIfAbsent(caller, c -> new TreeSet<>()).add(name);
        }
        return super.visitMethodInvocation(tree, none);
    }

    @Override
    public Void visitNewClass(NewClassTree tree, Void none) {
        check("12 (made once)", tree, method == null && isOwn(trees.getElement(getCurrentPath())));
        check("2 (no anonymous class)", tree, tree.getClassBody() == null);
        return super.visitNewClass(tree, none);
    }

    @Override
    public Void visitNewArray(NewArrayTree tree, Void none) {
        check("12 (made once)", tree, method == null);
        return super.visitNewArray(tree, none);
    }

    /** The method that takes an element looks at its index, by these very words. */
    @Override
    public Void visitArrayAccess(ArrayAccessTree tree, Void none) {
        String row = tree.getExpression().toString();
        String index = tree.getIndex().toString();
        String text = method == null ? "" : method.toString();
        check("7 (index)", tree, text.contains(index + " < " + row + ".length")
            || text.contains(index + " >= " + row + ".length") || text.contains(row + ".length > " + index));
        return super.visitArrayAccess(tree, none);
    }

    @Override
    public Void visitBinary(BinaryTree tree, Void none) {
        if (tree.getKind() == Tree.Kind.DIVIDE || tree.getKind() == Tree.Kind.REMAINDER) {
            check("7 (divisor)", tree, isNeverZero(tree.getRightOperand()));
        }
        if (tree.getKind() == Tree.Kind.PLUS) {
            check("10 (texts)", tree, trees.getTypeMirror(getCurrentPath()).getKind().isPrimitive());
        }
        return super.visitBinary(tree, none);
    }

    /** A number written out, or a name whose method begins it at 1, takes it as 1 at least, or asks whether it is 0. */
    private boolean isNeverZero(Tree divisor) {
        if (divisor instanceof LiteralTree) return !((LiteralTree) divisor).getValue().equals(0);
        String text = method == null ? "" : method.toString();
        return text.contains("int " + divisor + " = 1;") || text.contains(divisor + " != 0")
            || text.matches("(?s).*long " + divisor + " = Math\\.max\\([^;]*, 1\\);.*");
    }

    @Override
    public Void visitCompoundAssignment(CompoundAssignmentTree tree, Void none) {
        boolean divides = tree.getKind() == Tree.Kind.DIVIDE_ASSIGNMENT
            || tree.getKind() == Tree.Kind.REMAINDER_ASSIGNMENT;
        check("7 (divisor)", tree, !divides || isNeverZero(tree.getExpression()));
        return super.visitCompoundAssignment(tree, none);
    }

    @Override
    public Void visitForLoop(ForLoopTree tree, Void none) {
        String bound = tree.getCondition() == null ? "" : tree.getCondition().toString();
        boolean counted = !tree.getInitializer().isEmpty() && !tree.getUpdate().isEmpty();
        check("9", tree, counted && (bound.contains("<") || bound.contains(">")));
        return super.visitForLoop(tree, none);
    }

    private Void refuse(String rule, Tree tree) {
        check(rule, tree, false);
        return null;
    }

    @Override
    public Void visitWhileLoop(WhileLoopTree tree, Void none) {
        return refuse("9", tree);
    }

    @Override
    public Void visitDoWhileLoop(DoWhileLoopTree tree, Void none) {
        return refuse("9", tree);
    }

    @Override
    public Void visitTypeCast(TypeCastTree tree, Void none) {
        check("6 (casts)", tree, trees.getTypeMirror(getCurrentPath()).getKind().isPrimitive());
        return super.visitTypeCast(tree, none);
    }

    @Override
    public Void visitThrow(ThrowTree tree, Void none) {
        return refuse("6", tree);
    }

    @Override
    public Void visitTry(TryTree tree, Void none) {
        return refuse("6", tree);
    }

    @Override
    public Void visitSynchronized(SynchronizedTree tree, Void none) {
        return refuse("6", tree);
    }

    @Override
    public Void visitAssert(AssertTree tree, Void none) {
        return refuse("6", tree);
    }

    @Override
    public Void visitLambdaExpression(LambdaExpressionTree tree, Void none) {
        return refuse("2", tree);
    }

    @Override
    public Void visitMemberReference(MemberReferenceTree tree, Void none) {
        return refuse("2", tree);
    }

    /** How deep the calls go from a method on, itself and the library's too; far too deep, if it calls itself. */
    private int depth(String name, Set<String> open) {
        if (!open.add(name)) return DEPTH + 1;
        int below = 0;
        for (String called : calls.getOrDefault(name, Set.of())) {
            if (below <= DEPTH) below = Math.max(below, depth(called, open));
        }
        open.remove(name);
        return below + 1;
    }

    private void end() {
        T.due("rule 11: classes, at the most " + CLASSES, Math.max(classes, CLASSES), CLASSES);
        for (String name : calls.keySet()) {
            T.due("rules 8 and 11: depth of " + name, Math.max(depth(name, new HashSet<>()), DEPTH), DEPTH);
        }
        T.due("methods were read", calls.size() > BaubleHill.class.getDeclaredMethods().length ? 1 : 0, 1);
        T.end();
    }

    public static void main(String[] args) throws IOException {
        JavaCompiler compiler = ToolProvider.getSystemJavaCompiler();
        StandardJavaFileManager files = compiler.getStandardFileManager(null, null, null);
        JavacTask task = (JavacTask) compiler.getTask(null, files, null, List.of("-proc:none"), null,
            files.getJavaFileObjects(Path.of("src/main/java/BaubleHill.java")));
        CompilationUnitTree unit = task.parse().iterator().next();
        task.analyze();
        LanguageTest test = new LanguageTest(Trees.instance(task), unit);
        test.scan(unit, null);
        test.end();
    }
}
