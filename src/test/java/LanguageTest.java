import com.sun.source.tree.ClassTree;
import com.sun.source.tree.CompilationUnitTree;
import com.sun.source.tree.DoWhileLoopTree;
import com.sun.source.tree.ExpressionTree;
import com.sun.source.tree.ForLoopTree;
import com.sun.source.tree.ImportTree;
import com.sun.source.tree.LineMap;
import com.sun.source.tree.LiteralTree;
import com.sun.source.tree.MethodInvocationTree;
import com.sun.source.tree.MethodTree;
import com.sun.source.tree.NewClassTree;
import com.sun.source.tree.ParenthesizedTree;
import com.sun.source.tree.ThrowTree;
import com.sun.source.tree.Tree;
import com.sun.source.tree.TryTree;
import com.sun.source.tree.VariableTree;
import com.sun.source.tree.WhileLoopTree;
import com.sun.source.util.JavacTask;
import com.sun.source.util.SourcePositions;
import com.sun.source.util.TreePathScanner;
import com.sun.source.util.Trees;
import java.io.IOException;
import java.nio.file.Path;
import java.util.ArrayDeque;
import java.util.Deque;
import java.util.HashMap;
import java.util.LinkedHashSet;
import java.util.List;
import java.util.Map;
import java.util.Set;
import javax.lang.model.element.Element;
import javax.lang.model.element.ElementKind;
import javax.lang.model.element.Modifier;
import javax.lang.model.type.ArrayType;
import javax.lang.model.type.TypeMirror;
import javax.tools.JavaCompiler;
import javax.tools.StandardJavaFileManager;
import javax.tools.ToolProvider;

/** The program's text keeps to those rules of LANGUAGE.md that can be read off it; FaceTest looks at rule 1. */
public final class LanguageTest extends TreePathScanner<Void, Void> {
    private static final String PROGRAM = "MatrixDesk";
    private static final int LINES = 60;
    private static final int DEPTH = 8;
    /** What the program uses of rule 4's library; what it should need more of is looked up there first. */
    private static final Set<String> LIBRARY = Set.of("Arrays.fill", "Arrays.copyOf", "System.arraycopy",
        "Math.abs", "Math.min", "Math.max", "Integer.bitCount", "Object.<init>");
    private static final Set<String> EXCEPTIONS = Set.of("IllegalStateException", "IllegalArgumentException",
        "IndexOutOfBoundsException", "ArithmeticException", "UnsupportedOperationException",
        "NoSuchElementException", "RuntimeException");
    private static final Set<String> CONSTANTS = Set.of("int", "long", "boolean", "char", "java.lang.String");
    private static final Set<String> ROWS = Set.of("int", "long", "char", "byte");

    /** What the language has and the rules leave out, with the rule's number. */
    private static final Map<Tree.Kind, Integer> RULED_OUT = Map.of(Tree.Kind.LAMBDA_EXPRESSION, 2,
        Tree.Kind.MEMBER_REFERENCE, 2, Tree.Kind.SYNCHRONIZED, 6, Tree.Kind.ASSERT, 6);

    private static final Due due = new Due("LanguageTest");

    private final Trees trees;
    private final CompilationUnitTree file;
    private final Map<String, Set<String>> calls = new HashMap<>();
    private final Deque<String> within = new ArrayDeque<>();

    private LanguageTest(Trees trees, CompilationUnitTree file) {
        this.trees = trees;
        this.file = file;
    }

    public static void main(String[] args) throws IOException {
        JavaCompiler compiler = ToolProvider.getSystemJavaCompiler();
        try (StandardJavaFileManager files = compiler.getStandardFileManager(null, null, null)) {
            JavacTask task = (JavacTask) compiler.getTask(null, files, null, List.of("--release", "17"), null,
                files.getJavaFileObjects(Path.of("src", "main", "java", PROGRAM + ".java")));
            CompilationUnitTree file = task.parse().iterator().next();
            task.analyze();
            LanguageTest test = new LanguageTest(Trees.instance(task), file);
            due.truth("no package line", file.getPackageName() == null);
            due.number("classes beside one another", file.getTypeDecls().size(), 1);
            test.scan(file, null);
            test.depths();
        }
        due.end();
    }

    /** What is told has the line where it stands and the rule's number. */
    private void rule(int number, Tree tree, String what, boolean kept) {
        due.truth("line " + line(tree, false) + ", rule " + number + ": " + what, kept);
    }

    private long line(Tree tree, boolean last) {
        SourcePositions places = trees.getSourcePositions();
        LineMap lines = file.getLineMap();
        return lines.getLineNumber(last ? places.getEndPosition(file, tree) : places.getStartPosition(file, tree));
    }

    private static String name(Element element) {
        return element.getEnclosingElement().getSimpleName() + "." + element;
    }

    private static boolean isOwn(Element element) {
        for (Element outer = element; outer != null; outer = outer.getEnclosingElement()) {
            if (outer.getSimpleName().contentEquals(PROGRAM)) {
                return true;
            }
        }
        return false;
    }

    @Override
    public Void scan(Tree tree, Void none) {
        if (tree != null && RULED_OUT.containsKey(tree.getKind())) {
            rule(RULED_OUT.get(tree.getKind()), tree, "no " + tree.getKind(), false);
        }
        return super.scan(tree, none);
    }

    @Override
    public Void visitImport(ImportTree tree, Void none) {
        rule(4, tree, "imported", tree.toString().trim().equals("import java.util.Arrays;"));
        return null;
    }

    @Override
    public Void visitClass(ClassTree tree, Void none) {
        Element element = trees.getElement(getCurrentPath());
        boolean outer = element.getEnclosingElement().getKind() == ElementKind.PACKAGE;
        rule(2, tree, tree.getSimpleName() + " is static inside",
            outer || element.getModifiers().contains(Modifier.STATIC));
        for (Tree member : tree.getMembers()) {
            rule(5, member, "no initialiser block", member.getKind() != Tree.Kind.BLOCK);
        }
        return super.visitClass(tree, none);
    }

    @Override
    public Void visitVariable(VariableTree tree, Void none) {
        Element element = trees.getElement(getCurrentPath());
        TypeMirror type = element.asType();
        rule(3, tree, type + " " + tree.getName(), isAllowed(type));
        if (element.getModifiers().contains(Modifier.STATIC)) {
            rule(5, tree, "static final", element.getModifiers().contains(Modifier.FINAL));
            rule(5, tree, "a constant", isConstant(tree, type));
        }
        return super.visitVariable(tree, none);
    }

    /** Whole numbers, truths and characters, own classes, and rows of these. */
    private static boolean isAllowed(TypeMirror type) {
        TypeMirror base = type instanceof ArrayType row ? row.getComponentType() : type;
        return CONSTANTS.contains(base.toString()) || base.toString().startsWith(PROGRAM);
    }

    private static boolean isConstant(VariableTree tree, TypeMirror type) {
        if (type instanceof ArrayType row) {
            return ROWS.contains(row.getComponentType().toString())
                && tree.getInitializer().getKind() == Tree.Kind.NEW_ARRAY;
        }
        return CONSTANTS.contains(type.toString());
    }

    @Override
    public Void visitMethod(MethodTree tree, Void none) {
        rule(11, tree, tree.getName() + " is short", line(tree, true) - line(tree, false) < LINES);
        rule(11, tree, tree.getName() + " takes seven at most", tree.getParameters().size() <= 7);
        within.push(name(trees.getElement(getCurrentPath())));
        calls.put(within.peek(), new LinkedHashSet<>());
        super.visitMethod(tree, none);
        within.pop();
        return null;
    }

    @Override
    public Void visitMethodInvocation(MethodInvocationTree tree, Void none) {
        called(tree, trees.getElement(getCurrentPath()));
        return super.visitMethodInvocation(tree, none);
    }

    @Override
    public Void visitNewClass(NewClassTree tree, Void none) {
        Element made = trees.getElement(getCurrentPath());
        if (getCurrentPath().getParentPath().getLeaf().getKind() != Tree.Kind.THROW) {
            called(tree, made);
        }
        return super.visitNewClass(tree, none);
    }

    private void called(Tree tree, Element element) {
        if (isOwn(element)) {
            calls.get(within.peek()).add(name(element));
        } else {
            String call = element.getEnclosingElement().getSimpleName() + "." + element.getSimpleName();
            rule(4, tree, call, LIBRARY.contains(call));
        }
    }

    @Override
    public Void visitThrow(ThrowTree tree, Void none) {
        boolean kept = false;
        if (tree.getExpression() instanceof NewClassTree made) {
            List<? extends ExpressionTree> texts = made.getArguments();
            kept = EXCEPTIONS.contains(made.getIdentifier().toString())
                && (texts.isEmpty() || texts.size() == 1 && texts.get(0).getKind() == Tree.Kind.STRING_LITERAL);
        }
        rule(6, tree, "throw new E, or with a written text", kept);
        rule(6, tree, "no throw in a constructor", !isInConstructor());
        return super.visitThrow(tree, none);
    }

    private boolean isInConstructor() {
        for (Tree around : getCurrentPath()) {
            if (around instanceof MethodTree method) {
                return method.getName().contentEquals("<init>");
            }
        }
        return false;
    }

    @Override
    public Void visitTry(TryTree tree, Void none) {
        rule(6, tree, "no finally", tree.getFinallyBlock() == null);
        rule(6, tree, "no resources", tree.getResources().isEmpty());
        return super.visitTry(tree, none);
    }

    @Override
    public Void visitForLoop(ForLoopTree tree, Void none) {
        ends(tree, tree.getCondition());
        return super.visitForLoop(tree, none);
    }

    @Override
    public Void visitWhileLoop(WhileLoopTree tree, Void none) {
        ends(tree, tree.getCondition());
        return super.visitWhileLoop(tree, none);
    }

    @Override
    public Void visitDoWhileLoop(DoWhileLoopTree tree, Void none) {
        ends(tree, tree.getCondition());
        return super.visitDoWhileLoop(tree, none);
    }

    /** An end that can be seen is a bound, so the condition must compare, and never one that holds always. */
    private void ends(Tree loop, ExpressionTree condition) {
        ExpressionTree bare = condition instanceof ParenthesizedTree p ? p.getExpression() : condition;
        rule(9, loop, "a loop with a bound", bare != null && !(bare instanceof LiteralTree)
            && bare.toString().matches("(?s).*[<>].*"));
    }

    private void depths() {
        for (String method : calls.keySet()) {
            depth(method, new LinkedHashSet<>());
        }
    }

    /** Goes along every chain of calls; one that comes back to itself would be a recursion. */
    private void depth(String method, Set<String> open) {
        if (!open.add(method)) {
            due.text("rule 8, a chain of calls", open + " " + method, "none that comes back");
            return;
        }
        if (open.size() > DEPTH) {
            due.text("rule 11, a chain of calls", open.toString(), DEPTH + " deep at most");
        } else {
            for (String next : calls.getOrDefault(method, Set.of())) {
                depth(next, open);
            }
        }
        open.remove(method);
    }
}
