import com.sun.source.tree.AssertTree;
import com.sun.source.tree.BlockTree;
import com.sun.source.tree.ClassTree;
import com.sun.source.tree.CompilationUnitTree;
import com.sun.source.tree.DoWhileLoopTree;
import com.sun.source.tree.ExpressionTree;
import com.sun.source.tree.ForLoopTree;
import com.sun.source.tree.LambdaExpressionTree;
import com.sun.source.tree.LiteralTree;
import com.sun.source.tree.MemberReferenceTree;
import com.sun.source.tree.MethodInvocationTree;
import com.sun.source.tree.MethodTree;
import com.sun.source.tree.NewClassTree;
import com.sun.source.tree.ParenthesizedTree;
import com.sun.source.tree.SynchronizedTree;
import com.sun.source.tree.ThrowTree;
import com.sun.source.tree.Tree;
import com.sun.source.tree.TryTree;
import com.sun.source.tree.VariableTree;
import com.sun.source.tree.WhileLoopTree;
import com.sun.source.util.JavacTask;
import com.sun.source.util.TreePathScanner;
import com.sun.source.util.Trees;
import java.io.IOException;
import java.nio.file.Path;
import java.util.HashMap;
import java.util.List;
import java.util.Map;
import java.util.Set;
import java.util.TreeSet;
import javax.lang.model.element.Element;
import javax.lang.model.element.ElementKind;
import javax.lang.model.element.Modifier;
import javax.tools.JavaCompiler;
import javax.tools.StandardJavaFileManager;
import javax.tools.ToolProvider;

/**
 * Holds the class against ../shared/LANGUAGE.md by the compiler's own tree of it: the rules that can
 * be decided from the text alone, each told by its number. With a file's name it looks at that one.
 */
public final class LanguageTest extends TreePathScanner<Void, Void> {
    private static final Set<String> LIBRARY = Set.of("java.lang.Math.max", "java.lang.Math.min",
            "java.util.Arrays.fill", "java.lang.System.arraycopy", "java.lang.Object.<init>");
    private static final String TYPE =
            "void|(int|long|short|byte|char|boolean)(\\[\\]){0,2}|java\\.lang\\.String|ShortPost\\.\\w+(\\[\\])?";
    private static final int DEEPEST = 8, MOST_PARAMETERS = 7, MOST_LINES = 60, MOST_CLASSES = 12, MOST_FIELDS = 20;

    private final Trees trees;
    private final CompilationUnitTree unit;
    private final Set<String> publicNames = new TreeSet<>();
    private final Map<String, Set<String>> calls = new HashMap<>();
    private String method = null;
    private int classes = 0;
    private int wrong = 0;

    private LanguageTest(Trees trees, CompilationUnitTree unit) {
        this.trees = trees;
        this.unit = unit;
    }

    private void due(int rule, String what, boolean holds) {
        if (!holds) {
            wrong++;
            System.out.println("rule " + rule + ": " + what);
        }
    }

    private void never(int rule, Tree tree) {
        due(rule, "line " + line(tree, true) + ": " + tree.getKind(), false);
    }

    private long line(Tree tree, boolean first) {
        long place = first ? trees.getSourcePositions().getStartPosition(unit, tree)
                : trees.getSourcePositions().getEndPosition(unit, tree);
        return unit.getLineMap().getLineNumber(place);
    }

    private Element element() {
        return trees.getElement(getCurrentPath());
    }

    private static String nameOf(Element method) {
        return method.getEnclosingElement() + "." + method.getSimpleName();
    }

    @Override
    public Void visitClass(ClassTree tree, Void none) {
        Element element = element();
        classes++;
        boolean outer = element.getEnclosingElement().getKind() == ElementKind.PACKAGE;
        if (!outer) {
            due(2, element + " stands in the class itself, and is static",
                    element.getEnclosingElement().toString().equals("ShortPost")
                            && element.getModifiers().contains(Modifier.STATIC));
            due(1, element + " is not public", !element.getModifiers().contains(Modifier.PUBLIC));
        }
        int fields = 0;
        for (Element member : element.getEnclosedElements()) {
            Set<Modifier> modifiers = member.getModifiers();
            if (member.getKind() == ElementKind.FIELD && !modifiers.contains(Modifier.STATIC)) fields++;
            if (outer && member.getKind() == ElementKind.METHOD && modifiers.contains(Modifier.PUBLIC)) {
                publicNames.add(member.getSimpleName().toString());
            }
        }
        for (Tree member : tree.getMembers()) {
            due(5, element + " has an initialiser block", !(member instanceof BlockTree));
        }
        due(11, element + " has " + fields + " fields", fields <= MOST_FIELDS);
        return super.visitClass(tree, none);
    }

    @Override
    public Void visitMethod(MethodTree tree, Void none) {
        Element element = element();
        String outerMethod = method;
        method = nameOf(element);
        calls.computeIfAbsent(method, name -> new TreeSet<>());
        boolean open = element.getModifiers().contains(Modifier.PUBLIC);
        due(1, method + " bears a public one's name",
                open || !publicNames.contains(element.getSimpleName().toString()));
        due(11, method + " takes " + tree.getParameters().size(), tree.getParameters().size() <= MOST_PARAMETERS);
        long lines = line(tree, false) - line(tree, true) + 1;
        due(11, method + " has " + lines + " lines", lines <= MOST_LINES);
        due(6, method + " throws", tree.getThrows().isEmpty());
        super.visitMethod(tree, none);
        method = outerMethod;
        return null;
    }

    @Override
    public Void visitVariable(VariableTree tree, Void none) {
        Element element = element();
        String type = element.asType().toString();
        due(3, element + " is of " + type, type.matches(TYPE));
        if (element.getModifiers().contains(Modifier.STATIC)) {
            due(5, element + " is a constant", element.getModifiers().contains(Modifier.FINAL)
                    && type.matches("int|long|boolean|char|java\\.lang\\.String") && tree.getInitializer() != null);
        }
        return super.visitVariable(tree, none);
    }

    @Override
    public Void visitMethodInvocation(MethodInvocationTree tree, Void none) {
        noteCall(element(), tree);
        return super.visitMethodInvocation(tree, none);
    }

    @Override
    public Void visitNewClass(NewClassTree tree, Void none) {
        due(2, "line " + line(tree, true) + ": a class without a name", tree.getClassBody() == null);
        noteCall(element(), tree);
        return super.visitNewClass(tree, none);
    }

    private void noteCall(Element called, Tree tree) {
        String name = nameOf(called);
        due(4, "line " + line(tree, true) + ": " + name, name.startsWith("ShortPost") || LIBRARY.contains(name));
        if (method != null) calls.get(method).add(name);
    }

    private void loop(Tree tree, ExpressionTree condition) {
        ExpressionTree inner = condition instanceof ParenthesizedTree held ? held.getExpression() : condition;
        due(9, "line " + line(tree, true) + ": a loop without an end", inner != null && !(inner instanceof LiteralTree));
    }

    @Override
    public Void visitForLoop(ForLoopTree tree, Void none) {
        loop(tree, tree.getCondition());
        return super.visitForLoop(tree, none);
    }

    @Override
    public Void visitWhileLoop(WhileLoopTree tree, Void none) {
        loop(tree, tree.getCondition());
        return super.visitWhileLoop(tree, none);
    }

    @Override
    public Void visitDoWhileLoop(DoWhileLoopTree tree, Void none) {
        loop(tree, tree.getCondition());
        return super.visitDoWhileLoop(tree, none);
    }

    @Override
    public Void visitLambdaExpression(LambdaExpressionTree tree, Void none) {
        never(2, tree);
        return super.visitLambdaExpression(tree, none);
    }

    @Override
    public Void visitMemberReference(MemberReferenceTree tree, Void none) {
        never(2, tree);
        return super.visitMemberReference(tree, none);
    }

    @Override
    public Void visitThrow(ThrowTree tree, Void none) {
        never(6, tree);
        return super.visitThrow(tree, none);
    }

    @Override
    public Void visitTry(TryTree tree, Void none) {
        never(6, tree);
        return super.visitTry(tree, none);
    }

    @Override
    public Void visitSynchronized(SynchronizedTree tree, Void none) {
        never(6, tree);
        return super.visitSynchronized(tree, none);
    }

    @Override
    public Void visitAssert(AssertTree tree, Void none) {
        never(6, tree);
        return super.visitAssert(tree, none);
    }

    /** How many calls stand open at once below this one, itself too; recursion is told as a fault. */
    private int depth(String name, Set<String> open) {
        if (!open.add(name)) {
            due(8, name + " calls itself", false);
            return 0;
        }
        int deepest = 0;
        for (String called : calls.getOrDefault(name, Set.of())) deepest = Math.max(deepest, depth(called, open));
        open.remove(name);
        return deepest + 1;
    }

    private void whole() {
        due(11, classes + " classes", classes <= MOST_CLASSES);
        due(1, publicNames.size() + " public methods", publicNames.size() == 30);
        for (String name : calls.keySet()) {
            int depth = depth(name, new TreeSet<>());
            due(11, name + " goes " + depth + " deep", depth <= DEEPEST);
        }
    }

    public static void main(String[] args) throws IOException {
        Path file = Path.of(args.length > 0 ? args[0] : "src/main/java/ShortPost.java");
        JavaCompiler compiler = ToolProvider.getSystemJavaCompiler();
        int wrong = 0;
        try (StandardJavaFileManager files = compiler.getStandardFileManager(null, null, null)) {
            JavacTask task = (JavacTask) compiler.getTask(null, files, null, List.of("-proc:none"), null,
                    files.getJavaFileObjects(file));
            for (CompilationUnitTree unit : task.parse()) {
                task.analyze();
                LanguageTest test = new LanguageTest(Trees.instance(task), unit);
                test.due(1, "no package line", unit.getPackageName() == null);
                test.scan(unit, null);
                test.whole();
                wrong += test.wrong;
            }
        }
        System.out.println(wrong == 0 ? "the language is as due" : wrong + " faults of language");
        if (wrong != 0) System.exit(1);
    }
}
