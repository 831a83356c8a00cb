import com.sun.source.tree.BinaryTree;
import com.sun.source.tree.ClassTree;
import com.sun.source.tree.CompilationUnitTree;
import com.sun.source.tree.DoWhileLoopTree;
import com.sun.source.tree.ExpressionTree;
import com.sun.source.tree.ForLoopTree;
import com.sun.source.tree.LiteralTree;
import com.sun.source.tree.MethodInvocationTree;
import com.sun.source.tree.MethodTree;
import com.sun.source.tree.NewArrayTree;
import com.sun.source.tree.NewClassTree;
import com.sun.source.tree.ParenthesizedTree;
import com.sun.source.tree.Tree;
import com.sun.source.tree.VariableTree;
import com.sun.source.tree.WhileLoopTree;
import com.sun.source.util.JavacTask;
import com.sun.source.util.TreePath;
import com.sun.source.util.TreePathScanner;
import com.sun.source.util.Trees;
import java.io.IOException;
import java.nio.file.Path;
import java.util.HashMap;
import java.util.HashSet;
import java.util.List;
import java.util.Map;
import java.util.Set;
import java.util.TreeSet;
import javax.lang.model.element.Element;
import javax.lang.model.element.ElementKind;
import javax.lang.model.element.ExecutableElement;
import javax.lang.model.element.Modifier;
import javax.lang.model.type.TypeMirror;
import javax.tools.JavaCompiler;
import javax.tools.StandardJavaFileManager;
import javax.tools.ToolProvider;

/** Rules of LANGUAGE.md that need to know what a name in the source means: who calls what, and what is made where. */
public final class SourceTreeTest {
    private static final Check CHECK = new Check("SourceTreeTest");
    private static final int DEEPEST = 8;
    private static final int MOST_PARAMETERS = 7;

    /** Rule 4, as far as the class uses it; what else it allows may be added here when it is used. */
    private static final Set<String> LIBRARY = Set.of("java.lang.System.arraycopy", "java.lang.Integer.bitCount",
        "java.lang.String.length", "java.lang.String.charAt");
    private static final Set<String> TYPES = Set.of("int", "long", "boolean", "java.lang.String", "void");
    private static final Set<Tree.Kind> BANNED = Set.of(Tree.Kind.THROW, Tree.Kind.TRY, Tree.Kind.CATCH,
        Tree.Kind.SYNCHRONIZED, Tree.Kind.ASSERT, Tree.Kind.LAMBDA_EXPRESSION, Tree.Kind.MEMBER_REFERENCE,
        Tree.Kind.IMPORT, Tree.Kind.PACKAGE, Tree.Kind.ANNOTATION);

    private final Trees trees;
    private final CompilationUnitTree unit;
    private final Map<ExecutableElement, Set<ExecutableElement>> calls = new HashMap<>();

    private SourceTreeTest(JavacTask task) throws IOException {
        trees = Trees.instance(task);
        unit = task.parse().iterator().next();
        task.analyze();
    }

    public static void main(String[] args) throws IOException {
        JavaCompiler compiler = ToolProvider.getSystemJavaCompiler();
        try (StandardJavaFileManager files = compiler.getStandardFileManager(null, null, null)) {
            JavacTask task = (JavacTask) compiler.getTask(null, files, null, List.of("-proc:none"), null,
                files.getJavaFileObjects(Path.of("src/main/java/ProofFine.java")));
            SourceTreeTest test = new SourceTreeTest(task);
            new Looker().look(test);
            test.depths();
        }
        CHECK.end();
    }

    /** Rules 8 and 11: nothing calls itself, and calls that stand open at once are eight at most. */
    private void depths() {
        int deepest = 0;
        for (ExecutableElement method : calls.keySet()) {
            if (method.getModifiers().contains(Modifier.PUBLIC)) {
                deepest = Math.max(deepest, depth(method, 1));
            }
        }
        CHECK.holds("calls are followed", deepest >= 5);
        CHECK.holds("calls go " + deepest + " deep", deepest <= DEEPEST);
    }

    private int depth(ExecutableElement method, int open) {
        if (open > 40) {
            CHECK.holds(method + " is called without an end", false);
            return open;
        }
        int deepest = open;
        for (ExecutableElement called : calls.getOrDefault(method, Set.of())) {
            deepest = Math.max(deepest, depth(called, open + 1));
        }
        return deepest;
    }

    /** Looks at every node of the source. */
    private static final class Looker extends TreePathScanner<Void, Void> {
        private SourceTreeTest test;
        private int nodes;

        void look(SourceTreeTest of) {
            test = of;
            scan(test.unit, null);
            CHECK.holds("all is looked at", nodes > 3000);
        }

        @Override
        public Void scan(Tree tree, Void none) {
            if (tree != null) {
                nodes++;
                CHECK.holds(place(tree) + " is " + tree.getKind(), !BANNED.contains(tree.getKind()));
            }
            return super.scan(tree, none);
        }

        private String place(Tree tree) {
            long at = test.trees.getSourcePositions().getStartPosition(test.unit, tree);
            return "line " + (at < 0 ? 0 : test.unit.getLineMap().getLineNumber(at));
        }

        private ExecutableElement within() {
            for (TreePath path = getCurrentPath(); path != null; path = path.getParentPath()) {
                if (path.getLeaf() instanceof MethodTree) {
                    return (ExecutableElement) test.trees.getElement(path);
                }
            }
            return null;
        }

        @Override
        public Void visitMethod(MethodTree tree, Void none) {
            ExecutableElement method = (ExecutableElement) test.trees.getElement(getCurrentPath());
            test.calls.computeIfAbsent(method, m -> new HashSet<>());
            CHECK.holds(method + " takes seven at most", tree.getParameters().size() <= MOST_PARAMETERS);
            CHECK.holds(method + " is no public one's name", !method.getModifiers().contains(Modifier.PRIVATE)
                || !publicNames().contains(tree.getName().toString()));
            return super.visitMethod(tree, none);
        }

        private Set<String> publicNames() {
            Set<String> names = new TreeSet<>();
            for (java.lang.reflect.Method m : ProofFine.class.getDeclaredMethods()) {
                if (java.lang.reflect.Modifier.isPublic(m.getModifiers())) {
                    names.add(m.getName());
                }
            }
            return names;
        }

        /** Rule 4: of the library only what it lists. */
        @Override
        public Void visitMethodInvocation(MethodInvocationTree tree, Void none) {
            ExecutableElement called = (ExecutableElement) test.trees.getElement(
                new TreePath(getCurrentPath(), tree.getMethodSelect()));
            if (isOwn(called)) {
                call(called);
            } else if (called.getKind() != ElementKind.CONSTRUCTOR) {
                // the constructor of Object, which every one of ours calls, is no call of the library's
                String name = called.getEnclosingElement() + "." + called.getSimpleName();
                CHECK.holds(place(tree) + " calls " + name, LIBRARY.contains(name));
            }
            return super.visitMethodInvocation(tree, none);
        }

        private static boolean isOwn(ExecutableElement called) {
            String owner = called.getEnclosingElement().toString();
            return owner.equals("ProofFine") || owner.startsWith("ProofFine.");
        }

        private void call(ExecutableElement called) {
            ExecutableElement caller = within();
            if (caller != null) {
                test.calls.computeIfAbsent(caller, m -> new HashSet<>()).add(called);
            }
        }

        /** Rule 12 and the one room: only constructors make objects, and no call makes one of ours. */
        @Override
        public Void visitNewClass(NewClassTree tree, Void none) {
            onlyWhereAnObjectBegins(tree);
            ExecutableElement made = (ExecutableElement) test.trees.getElement(getCurrentPath());
            CHECK.holds(place(tree) + " makes one of its own classes", isOwn(made));
            call(made);
            CHECK.holds(place(tree) + " has no body of its own", tree.getClassBody() == null);
            return super.visitNewClass(tree, none);
        }

        @Override
        public Void visitNewArray(NewArrayTree tree, Void none) {
            onlyWhereAnObjectBegins(tree);
            return super.visitNewArray(tree, none);
        }

        private void onlyWhereAnObjectBegins(Tree tree) {
            ExecutableElement where = within();
            CHECK.holds(place(tree) + " makes an object in a call",
                where == null || where.getKind() == ElementKind.CONSTRUCTOR);
        }

        /** Rule 3: which types there are, and rule 5: what is static is final. */
        @Override
        public Void visitVariable(VariableTree tree, Void none) {
            Element variable = test.trees.getElement(getCurrentPath());
            String type = variable.asType().toString();
            String bare = type.endsWith("[]") ? type.substring(0, type.length() - 2) : type;
            CHECK.holds(place(tree) + " is of " + type, TYPES.contains(bare) || bare.startsWith("ProofFine"));
            Set<Modifier> how = variable.getModifiers();
            if (how.contains(Modifier.STATIC)) {
                CHECK.holds(place(tree) + " is final", how.contains(Modifier.FINAL));
                CHECK.holds(place(tree) + " is of numbers or a text", TYPES.contains(bare));
            }
            return super.visitVariable(tree, none);
        }

        @Override
        public Void visitClass(ClassTree tree, Void none) {
            Element type = test.trees.getElement(getCurrentPath());
            CHECK.holds(type + " is final", type.getModifiers().contains(Modifier.FINAL));
            CHECK.holds(type + " stands in the class or is it", getCurrentPath().getParentPath().getLeaf()
                instanceof ClassTree == type.getModifiers().contains(Modifier.STATIC));
            return super.visitClass(tree, none);
        }

        /** Rule 10: texts are not joined by +. Rule 6: == is not between two texts. */
        @Override
        public Void visitBinary(BinaryTree tree, Void none) {
            for (ExpressionTree side : List.of(tree.getLeftOperand(), tree.getRightOperand())) {
                TypeMirror type = test.trees.getTypeMirror(new TreePath(getCurrentPath(), side));
                CHECK.holds(place(tree) + " joins or compares " + type, !type.toString().equals("java.lang.String"));
            }
            return super.visitBinary(tree, none);
        }

        /** Rule 9: every loop has an end that is asked for. */
        @Override
        public Void visitForLoop(ForLoopTree tree, Void none) {
            endIsAskedFor(tree, tree.getCondition());
            return super.visitForLoop(tree, none);
        }

        @Override
        public Void visitWhileLoop(WhileLoopTree tree, Void none) {
            endIsAskedFor(tree, tree.getCondition());
            return super.visitWhileLoop(tree, none);
        }

        @Override
        public Void visitDoWhileLoop(DoWhileLoopTree tree, Void none) {
            endIsAskedFor(tree, tree.getCondition());
            return super.visitDoWhileLoop(tree, none);
        }

        private void endIsAskedFor(Tree loop, ExpressionTree condition) {
            ExpressionTree bare = condition instanceof ParenthesizedTree p ? p.getExpression() : condition;
            CHECK.holds(place(loop) + " asks for its end", bare != null && !(bare instanceof LiteralTree));
        }
    }
}
