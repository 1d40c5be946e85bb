import com.sun.source.tree.AssertTree;
import com.sun.source.tree.ClassTree;
import com.sun.source.tree.CompilationUnitTree;
import com.sun.source.tree.LambdaExpressionTree;
import com.sun.source.tree.MemberReferenceTree;
import com.sun.source.tree.MethodInvocationTree;
import com.sun.source.tree.MethodTree;
import com.sun.source.tree.SynchronizedTree;
import com.sun.source.tree.ThrowTree;
import com.sun.source.tree.TryTree;
import com.sun.source.tree.VariableTree;
import com.sun.source.util.JavacTask;
import com.sun.source.util.TreePathScanner;
import com.sun.source.util.Trees;
import java.io.File;
import java.util.List;
import java.util.Map;
import java.util.Set;
import java.util.TreeMap;
import java.util.TreeSet;
import javax.lang.model.element.Element;
import javax.lang.model.element.ElementKind;
import javax.lang.model.element.Modifier;
import javax.tools.JavaCompiler;
import javax.tools.StandardJavaFileManager;
import javax.tools.ToolProvider;

/** What of ../shared/LANGUAGE.md can be seen from the source: its bounds, the library that it lists, what it leaves out. */
public final class LanguageTest extends TreePathScanner<Void, Void> {
    private static final String SOURCE = "src/main/java/NamedCallers.java";
    private static final Set<String> LIBRARY = Set.of("String.length", "String.charAt", "String.indexOf", "String.equals",
        "Integer.bitCount", "Math.abs", "Math.floorMod", "Math.max", "Math.min", "System.arraycopy", "Object.<init>");

    private final Trees trees;
    private final CompilationUnitTree unit;
    private final Map<String, Set<String>> calls = new TreeMap<>();
    private int classes = 0;
    private String method = "";

    private LanguageTest(Trees trees, CompilationUnitTree unit) {
        this.trees = trees;
        this.unit = unit;
    }

    public static void main(String[] args) throws Exception {
        JavaCompiler javac = ToolProvider.getSystemJavaCompiler();
        try (StandardJavaFileManager files = javac.getStandardFileManager(null, null, null)) {
            JavacTask task = (JavacTask) javac.getTask(null, files, null, List.of("-proc:none"), null,
                files.getJavaFileObjects(new File(SOURCE)));
            for (CompilationUnitTree unit : task.parse()) {
                task.analyze();
                LanguageTest test = new LanguageTest(Trees.instance(task), unit);
                test.scan(unit, null);
                test.whole();
            }
        }
        Checks.finish();
    }

    private void whole() {
        Checks.due("rule 1: no package line", unit.getPackage() == null, true);
        Checks.due("rule 11: some twelve classes", classes >= 1 && classes <= 12, true);
        for (String from : calls.keySet()) {
            Checks.due("rule 11: calls behind " + from + " go eight deep at most", depth(from, new TreeSet<>()) <= 8, true);
        }
    }

    /** How many calls stand open at once behind a method; those of a recursion do not count. */
    private int depth(String from, Set<String> open) {
        int deepest = 0;
        open.add(from);
        for (String to : calls.getOrDefault(from, Set.of())) {
            if (!open.contains(to)) {
                deepest = Math.max(deepest, depth(to, open));
            }
        }
        open.remove(from);
        return deepest + (recurs(from) ? 0 : 1);
    }

    private boolean recurs(String name) {
        Set<String> reached = new TreeSet<>(calls.getOrDefault(name, Set.of()));
        for (int size = -1; size != reached.size();) {
            size = reached.size();
            for (String one : new TreeSet<>(reached)) {
                reached.addAll(calls.getOrDefault(one, Set.of()));
            }
        }
        return reached.contains(name);
    }

    private void no(String what) {
        Checks.due(what + " in " + method, true, false);
    }

    private long line(long position) {
        return unit.getLineMap().getLineNumber(position);
    }

    @Override
    public Void visitClass(ClassTree tree, Void none) {
        classes++;
        String name = tree.getSimpleName().toString();
        Set<Modifier> modifiers = tree.getModifiers().getFlags();
        boolean outer = name.equals("NamedCallers");
        Checks.due("rule 1: " + name + " is static, and not public", outer || modifiers.contains(Modifier.STATIC)
            && !modifiers.contains(Modifier.PUBLIC) && !modifiers.contains(Modifier.PROTECTED), true);
        long fields = tree.getMembers().stream().filter(m -> m instanceof VariableTree v
            && !v.getModifiers().getFlags().contains(Modifier.STATIC)).count();
        Checks.due("rule 11: some twenty fields of " + name, fields <= 20, true);
        return super.visitClass(tree, none);
    }

    @Override
    public Void visitMethod(MethodTree tree, Void none) {
        Element owner = trees.getElement(getCurrentPath());
        method = nameOf(owner);
        Checks.due("rule 11: parameters of " + method, tree.getParameters().size() <= 7, true);
        long first = line(trees.getSourcePositions().getStartPosition(unit, tree));
        long last = line(trees.getSourcePositions().getEndPosition(unit, tree));
        Checks.due("rule 11: some sixty lines of " + method, last - first < 60, true);
        calls.putIfAbsent(method, new TreeSet<>());
        return super.visitMethod(tree, none);
    }

    @Override
    public Void visitMethodInvocation(MethodInvocationTree tree, Void none) {
        Element called = trees.getElement(getCurrentPath());
        String name = nameOf(called);
        if (called.getEnclosingElement().toString().startsWith("NamedCallers")) {
            calls.computeIfAbsent(method, m -> new TreeSet<>()).add(name);
        } else if (!LIBRARY.contains(name)) {
            no("rule 4: " + name);
        }
        return super.visitMethodInvocation(tree, none);
    }

    private static String nameOf(Element method) {
        return method.getEnclosingElement().getSimpleName() + "." + method.getSimpleName();
    }

    @Override
    public Void visitVariable(VariableTree tree, Void none) {
        Element variable = trees.getElement(getCurrentPath());
        Set<Modifier> modifiers = variable.getModifiers();
        boolean shared = variable.getKind() == ElementKind.FIELD && modifiers.contains(Modifier.STATIC);
        Checks.due("rule 5: " + variable + " is final", !shared || modifiers.contains(Modifier.FINAL), true);
        return super.visitVariable(tree, none);
    }

    @Override
    public Void visitThrow(ThrowTree tree, Void none) {
        Checks.due("rule 6: thrown in " + method + ": " + tree, method.equals("NamedCallers.caller")
            && tree.getExpression().toString().startsWith("new NoSuchElementException("), true);
        return super.visitThrow(tree, none);
    }

    @Override
    public Void visitTry(TryTree tree, Void none) {
        no("rule 6: the class needs no try, but there is one");
        return super.visitTry(tree, none);
    }

    @Override
    public Void visitLambdaExpression(LambdaExpressionTree tree, Void none) {
        no("rule 2: a lambda");
        return super.visitLambdaExpression(tree, none);
    }

    @Override
    public Void visitMemberReference(MemberReferenceTree tree, Void none) {
        no("rule 2: a method reference");
        return super.visitMemberReference(tree, none);
    }

    @Override
    public Void visitSynchronized(SynchronizedTree tree, Void none) {
        no("rule 6: synchronized");
        return super.visitSynchronized(tree, none);
    }

    @Override
    public Void visitAssert(AssertTree tree, Void none) {
        no("rule 6: assert");
        return super.visitAssert(tree, none);
    }
}
