import com.sun.source.tree.AssertTree;
import com.sun.source.tree.ClassTree;
import com.sun.source.tree.CompilationUnitTree;
import com.sun.source.tree.ImportTree;
import com.sun.source.tree.LambdaExpressionTree;
import com.sun.source.tree.MemberReferenceTree;
import com.sun.source.tree.MethodInvocationTree;
import com.sun.source.tree.MethodTree;
import com.sun.source.tree.NewClassTree;
import com.sun.source.tree.SynchronizedTree;
import com.sun.source.tree.ThrowTree;
import com.sun.source.tree.Tree;
import com.sun.source.tree.TryTree;
import com.sun.source.tree.VariableTree;
import com.sun.source.util.JavacTask;
import com.sun.source.util.SourcePositions;
import com.sun.source.util.TreePathScanner;
import com.sun.source.util.Trees;
import java.io.File;
import java.io.IOException;
import java.util.HashSet;
import java.util.List;
import java.util.Map;
import java.util.Set;
import java.util.TreeMap;
import java.util.TreeSet;
import javax.lang.model.element.Element;
import javax.lang.model.element.ExecutableElement;
import javax.lang.model.element.Modifier;
import javax.tools.JavaCompiler;
import javax.tools.StandardJavaFileManager;
import javax.tools.ToolProvider;

/** Those rules of LANGUAGE.md that can be read off the source. */
final class LanguageTest extends TreePathScanner<Void, Void> {
    private static final Set<String> LIBRARY = Set.of("java.lang.String.length", "java.lang.String.charAt", "java.lang.String.isEmpty",
        "java.lang.String.equals", "java.lang.String.substring", "java.lang.Math.max", "java.lang.Math.min", "java.lang.Math.abs",
        "java.lang.System.arraycopy", "java.util.Arrays.fill", "java.util.Arrays.copyOf", "java.util.Arrays.copyOfRange",
        "java.lang.Object.<init>");
    private static final Set<String> THROWN = Set.of("IllegalStateException", "IllegalArgumentException", "IndexOutOfBoundsException",
        "ArithmeticException", "UnsupportedOperationException", "NoSuchElementException", "RuntimeException");
    private static final Set<String> CONSTANTS = Set.of("int", "long", "boolean", "char", "String", "int[]", "long[]", "char[]", "byte[]");

    private final Trees trees;
    private final SourcePositions places;
    private final CompilationUnitTree unit;
    private final Map<String, Set<String>> calls = new TreeMap<>();
    private String method = "";
    private int classes;

    private LanguageTest(JavacTask task, CompilationUnitTree unit) {
        trees = Trees.instance(task);
        places = trees.getSourcePositions();
        this.unit = unit;
    }

    public static void main(String[] args) throws IOException {
        JavaCompiler compiler = ToolProvider.getSystemJavaCompiler();
        StandardJavaFileManager files = compiler.getStandardFileManager(null, null, null);
        JavacTask task = (JavacTask) compiler.getTask(null, files, null, List.of("-proc:none", "--release", "17"), null,
            files.getJavaFileObjects(new File("src/main/java/TextAtlas.java")));
        CompilationUnitTree unit = task.parse().iterator().next();
        task.analyze();
        LanguageTest test = new LanguageTest(task, unit);
        test.scan(unit, null);
        test.depths();
        Bench.due("classes: " + test.classes, test.classes <= 13, true);
        Bench.due("no package", unit.getPackageName(), null);
        Bench.finish();
    }

    private void depths() {
        for (String each : calls.keySet()) {
            int depth = depth(each, new HashSet<>());
            Bench.due("calls below " + each + " go " + depth + " deep", depth <= 8, true);
        }
    }

    /** How many calls stand open at once; far too many if there is recursion. */
    private int depth(String from, Set<String> above) {
        if (!above.add(from)) {
            return 1000;
        }
        int deepest = 0;
        for (String to : calls.getOrDefault(from, Set.of())) {
            deepest = Math.max(deepest, depth(to, above));
        }
        above.remove(from);
        return deepest + 1;
    }

    private void never(String what) {
        Bench.due("there is " + what + " in " + method, true, false);
    }

    @Override
    public Void visitImport(ImportTree tree, Void none) {
        boolean known = Set.of("java.util.Arrays", "java.util.ArrayList", "java.util.List").contains(tree.getQualifiedIdentifier().toString());
        Bench.due(tree + " is allowed", known, true);
        return super.visitImport(tree, none);
    }

    @Override
    public Void visitClass(ClassTree tree, Void none) {
        classes++;
        int fields = 0;
        for (Tree member : tree.getMembers()) {
            if (member.getKind() == Tree.Kind.BLOCK) {
                never("an initialiser block");
            }
            if (member instanceof VariableTree field) {
                fields += field.getModifiers().getFlags().contains(Modifier.STATIC) ? 0 : 1;
            }
        }
        Bench.due("fields of " + tree.getSimpleName() + ": " + fields, fields <= 20, true);
        return super.visitClass(tree, none);
    }

    @Override
    public Void visitVariable(VariableTree tree, Void none) {
        Set<Modifier> flags = tree.getModifiers().getFlags();
        if (flags.contains(Modifier.STATIC)) {
            boolean constant = flags.contains(Modifier.FINAL) && CONSTANTS.contains(tree.getType().toString());
            Bench.due("static " + tree.getName() + " is a constant", constant, true);
        }
        return super.visitVariable(tree, none);
    }

    private String nameOf(Element element) {
        return element.getEnclosingElement() + "." + element.getSimpleName();
    }

    @Override
    public Void visitMethod(MethodTree tree, Void none) {
        String outer = method;
        method = nameOf(trees.getElement(getCurrentPath()));
        calls.putIfAbsent(method, new TreeSet<>());
        Bench.due(method + " has parameters", tree.getParameters().size() <= 7, true);
        long first = unit.getLineMap().getLineNumber(places.getStartPosition(unit, tree));
        long last = unit.getLineMap().getLineNumber(Math.max(places.getEndPosition(unit, tree), places.getStartPosition(unit, tree)));
        Bench.due(method + " is short: " + (last - first + 1), last - first + 1 <= 60, true);
        super.visitMethod(tree, none);
        method = outer;
        return null;
    }

    @Override
    public Void visitMethodInvocation(MethodInvocationTree tree, Void none) {
        ExecutableElement called = (ExecutableElement) trees.getElement(getCurrentPath());
        String name = nameOf(called);
        if (name.startsWith("TextAtlas")) {
            calls.computeIfAbsent(method, m -> new TreeSet<>()).add(name);
        } else {
            Bench.due(name + " is allowed", LIBRARY.contains(name), true);
        }
        return super.visitMethodInvocation(tree, none);
    }

    @Override
    public Void visitThrow(ThrowTree tree, Void none) {
        boolean made = tree.getExpression() instanceof NewClassTree made1 && THROWN.contains(made1.getIdentifier().toString());
        Bench.due("throw in " + method + " of an allowed class", made && !method.endsWith("<init>"), true);
        return super.visitThrow(tree, none);
    }

    @Override
    public Void visitLambdaExpression(LambdaExpressionTree tree, Void none) {
        never("a lambda");
        return null;
    }

    @Override
    public Void visitMemberReference(MemberReferenceTree tree, Void none) {
        never("a method reference");
        return null;
    }

    @Override
    public Void visitTry(TryTree tree, Void none) {
        never("a try, which nothing here needs");
        return null;
    }

    @Override
    public Void visitSynchronized(SynchronizedTree tree, Void none) {
        never("a synchronized");
        return null;
    }

    @Override
    public Void visitAssert(AssertTree tree, Void none) {
        never("an assert");
        return null;
    }
}
