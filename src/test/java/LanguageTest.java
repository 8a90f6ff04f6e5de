import com.sun.source.tree.BinaryTree;
import com.sun.source.tree.ClassTree;
import com.sun.source.tree.CompilationUnitTree;
import com.sun.source.tree.ExpressionTree;
import com.sun.source.tree.LiteralTree;
import com.sun.source.tree.MethodInvocationTree;
import com.sun.source.tree.MethodTree;
import com.sun.source.tree.NewArrayTree;
import com.sun.source.tree.NewClassTree;
import com.sun.source.tree.ThrowTree;
import com.sun.source.tree.Tree;
import com.sun.source.tree.TypeCastTree;
import com.sun.source.tree.VariableTree;
import com.sun.source.util.JavacTask;
import com.sun.source.util.TreePath;
import com.sun.source.util.TreePathScanner;
import com.sun.source.util.Trees;
import java.io.IOException;
import java.nio.file.Files;
import java.nio.file.Path;
import java.util.EnumSet;
import java.util.HashMap;
import java.util.HashSet;
import java.util.List;
import java.util.Map;
import java.util.Set;
import javax.lang.model.element.Element;
import javax.lang.model.element.ElementKind;
import javax.lang.model.element.Modifier;
import javax.tools.JavaCompiler;
import javax.tools.StandardJavaFileManager;
import javax.tools.ToolProvider;

/**
 * Holds the class against ../shared/LANGUAGE.md, as far as the compiler's tree of it tells: each
 * answer names the rule. It is stricter where the class is: of the library just Math.min and
 * Math.max, no recursion, no try, no object or array made by a call but the exception it throws.
 */
public final class LanguageTest extends TreePathScanner<Void, Void> {
    private static final Path CLASS = Path.of("src/main/java/Rootsong.java");
    private static final Set<Tree.Kind> RULED_OUT = EnumSet.of(Tree.Kind.LAMBDA_EXPRESSION,
            Tree.Kind.MEMBER_REFERENCE, Tree.Kind.ASSERT, Tree.Kind.SYNCHRONIZED, Tree.Kind.TRY,
            Tree.Kind.TYPE_CAST, Tree.Kind.INSTANCE_OF, Tree.Kind.SWITCH_EXPRESSION);
    private static final Set<String> LIBRARY = Set.of("java.lang.Math.min", "java.lang.Math.max");
    private static final Set<String> EXCEPTIONS = Set.of("IllegalStateException",
            "IllegalArgumentException", "IndexOutOfBoundsException", "ArithmeticException",
            "UnsupportedOperationException", "NoSuchElementException", "RuntimeException");
    /** Casts are between numbers alone. */
    private static final Set<String> NUMBERS = Set.of("int", "long", "float", "double", "char");
    private static final Set<String> CONSTANTS = Set.of("int", "long", "boolean", "char",
            "java.lang.String");
    private static final int MOST_PARAMETERS = 7;
    private static final int MOST_LINES = 60;
    private static final int MOST_CLASSES = 12;
    private static final int MOST_FIELDS = 20;
    private static final int DEEPEST = 8;

    private final Trees trees;
    private final CompilationUnitTree unit;
    private final Map<Element, Set<Element>> calls = new HashMap<>();
    private int classes = 0;

    private LanguageTest(Trees trees, CompilationUnitTree unit) {
        this.trees = trees;
        this.unit = unit;
    }

    public static void main(String[] args) throws IOException {
        String source = Files.readString(CLASS);
        Check.due("rule 4, signs that are not 1 to 127",
                source.chars().filter(sign -> sign < 1 || sign > 127).count(), 0L);
        JavaCompiler compiler = ToolProvider.getSystemJavaCompiler();
        try (StandardJavaFileManager files = compiler.getStandardFileManager(null, null, null)) {
            JavacTask task = (JavacTask) compiler.getTask(null, files, null, null, null,
                    files.getJavaFileObjects(CLASS));
            CompilationUnitTree unit = task.parse().iterator().next();
            task.analyze();
            new LanguageTest(Trees.instance(task), unit).look();
        }
        Check.end("LanguageTest");
    }

    private void look() {
        Check.due("no package line", unit.getPackageName() == null, true);
        scan(unit, null);
        Check.due("rule 11, at most 12 classes, not " + classes, classes <= MOST_CLASSES, true);
        for (Element method : calls.keySet()) {
            int depth = depthOf(method, new HashSet<>());
            Check.due("rules 8 and 11, " + method + " goes deep, " + depth, depth <= DEEPEST, true);
        }
    }

    /** How many calls stand open at the most; more than any for a call that comes back. */
    private int depthOf(Element method, Set<Element> open) {
        if (!open.add(method)) {
            return DEEPEST + 1;
        }
        int deepest = 0;
        for (Element called : calls.getOrDefault(method, Set.of())) {
            deepest = Math.max(deepest, depthOf(called, open));
        }
        open.remove(method);
        return deepest + 1;
    }

    private Element element() {
        return trees.getElement(getCurrentPath());
    }

    private void ruled(String rule, Tree tree, boolean isKept) {
        long line = unit.getLineMap().getLineNumber(
                trees.getSourcePositions().getStartPosition(unit, tree));
        Check.due("rule " + rule + ", line " + line, isKept, true);
    }

    private MethodTree methodAround() {
        for (TreePath path = getCurrentPath(); path != null; path = path.getParentPath()) {
            if (path.getLeaf() instanceof MethodTree method) {
                return method;
            }
        }
        return null;
    }

    @Override
    public Void scan(Tree tree, Void none) {
        if (tree != null && tree.getKind() != Tree.Kind.TYPE_CAST) {
            ruled("2, 6, 10: " + tree.getKind(), tree, !RULED_OUT.contains(tree.getKind()));
        }
        return super.scan(tree, none);
    }

    @Override
    public Void visitTypeCast(TypeCastTree cast, Void none) {
        ruled("7: a cast", cast, NUMBERS.contains(cast.getType().toString()));
        return super.visitTypeCast(cast, none);
    }

    @Override
    public Void visitClass(ClassTree one, Void none) {
        classes++;
        boolean isInside = classes > 1;
        Set<Modifier> flags = one.getModifiers().getFlags();
        ruled("2: a class inside", one, !isInside
                || flags.contains(Modifier.STATIC) && !flags.contains(Modifier.PUBLIC)
                && !flags.contains(Modifier.PROTECTED));
        long fields = one.getMembers().stream().filter(member -> member instanceof VariableTree field
                && !field.getModifiers().getFlags().contains(Modifier.STATIC)).count();
        ruled("11: fields", one, fields <= MOST_FIELDS);
        ruled("5: a static initialiser", one, one.getMembers().stream()
                .noneMatch(member -> member.getKind() == Tree.Kind.BLOCK));
        return super.visitClass(one, none);
    }

    @Override
    public Void visitVariable(VariableTree variable, Void none) {
        if (element().getKind() == ElementKind.FIELD
                && element().getModifiers().contains(Modifier.STATIC)) {
            ruled("5: a static field", variable, element().getModifiers().contains(Modifier.FINAL)
                    && CONSTANTS.contains(element().asType().toString()));
        }
        return super.visitVariable(variable, none);
    }

    @Override
    public Void visitMethod(MethodTree method, Void none) {
        String name = method.getName().toString();
        boolean isFace = element().getModifiers().contains(Modifier.PUBLIC);
        // The document's face has one call with more, and goes ahead of the rule.
        ruled("11: parameters", method, method.getParameters().size() <= MOST_PARAMETERS
                || isFace && name.equals("typeMore"));
        ruled("11: lines", method, method.toString().lines().count() <= MOST_LINES);
        ruled("6: a method of every object", method,
                !Set.of("equals", "hashCode", "toString").contains(name));
        calls.putIfAbsent(element(), new HashSet<>());
        return super.visitMethod(method, none);
    }

    @Override
    public Void visitMethodInvocation(MethodInvocationTree call, Void none) {
        Element called = element();
        String owner = called.getEnclosingElement().toString();
        ruled("4: " + owner + "." + called.getSimpleName(), call, owner.startsWith("Rootsong")
                || called.getKind() == ElementKind.CONSTRUCTOR
                || LIBRARY.contains(owner + "." + called.getSimpleName()));
        MethodTree around = methodAround();
        if (around != null) {
            Element caller = trees.getElement(TreePath.getPath(unit, around));
            calls.computeIfAbsent(caller, key -> new HashSet<>()).add(called);
        }
        return super.visitMethodInvocation(call, none);
    }

    private boolean isInConstructorOrField() {
        MethodTree around = methodAround();
        return around == null || around.getReturnType() == null;
    }

    @Override
    public Void visitNewClass(NewClassTree made, Void none) {
        boolean isThrown = getCurrentPath().getParentPath().getLeaf() instanceof ThrowTree;
        ruled("12: an object of a call", made, isThrown || isInConstructorOrField());
        return super.visitNewClass(made, none);
    }

    @Override
    public Void visitNewArray(NewArrayTree made, Void none) {
        ruled("12: an array of a call", made, isInConstructorOrField());
        return super.visitNewArray(made, none);
    }

    @Override
    public Void visitThrow(ThrowTree thrown, Void none) {
        boolean isWritten = thrown.getExpression() instanceof NewClassTree made
                && EXCEPTIONS.contains(made.getIdentifier().toString())
                && made.getArguments().stream().allMatch(text -> text instanceof LiteralTree)
                && made.getArguments().size() <= 1;
        ruled("6: a throw", thrown, isWritten && methodAround().getReturnType() != null);
        return super.visitThrow(thrown, none);
    }

    @Override
    public Void visitBinary(BinaryTree both, Void none) {
        for (ExpressionTree side : List.of(both.getLeftOperand(), both.getRightOperand())) {
            String type = trees.getTypeMirror(new TreePath(getCurrentPath(), side)).toString();
            ruled("10: of texts, " + both.getKind(), both, !type.equals("java.lang.String"));
        }
        return super.visitBinary(both, none);
    }
}
