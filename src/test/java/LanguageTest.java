import com.sun.source.tree.ArrayAccessTree;
import com.sun.source.tree.BinaryTree;
import com.sun.source.tree.ClassTree;
import com.sun.source.tree.CompilationUnitTree;
import com.sun.source.tree.CompoundAssignmentTree;
import com.sun.source.tree.ExpressionTree;
import com.sun.source.tree.ImportTree;
import com.sun.source.tree.LiteralTree;
import com.sun.source.tree.MethodInvocationTree;
import com.sun.source.tree.MethodTree;
import com.sun.source.tree.NewArrayTree;
import com.sun.source.tree.NewClassTree;
import com.sun.source.tree.ThrowTree;
import com.sun.source.tree.Tree;
import com.sun.source.tree.VariableTree;
import com.sun.source.util.JavacTask;
import com.sun.source.util.TreePath;
import com.sun.source.util.TreePathScanner;
import com.sun.source.util.Trees;
import java.io.File;
import java.io.IOException;
import java.nio.file.Files;
import java.nio.file.Path;
import java.util.ArrayList;
import java.util.HashMap;
import java.util.HashSet;
import java.util.LinkedHashSet;
import java.util.List;
import java.util.Map;
import java.util.Set;
import javax.lang.model.element.Element;
import javax.lang.model.element.ElementKind;
import javax.lang.model.element.Modifier;
import javax.tools.JavaCompiler;
import javax.tools.StandardJavaFileManager;
import javax.tools.ToolProvider;

/**
 * The rules of LANGUAGE.md that can be seen in the source of the class, with the numbers that they have there. Where
 * a rule allows more than the class needs, the test allows what the class needs: it says where to look, then.
 */
public final class LanguageTest {
    private static final Path SOURCE = Path.of("src/main/java/DockTree.java");
    private static final Set<String> LIBRARY = Set.of("Math.max", "Math.min", "Arrays.fill", "System.arraycopy",
            "String.length", "String.charAt", "Object.<init>", "Enum.<init>", "Command.values");
    private static final Set<String> EXCEPTIONS = Set.of("IllegalStateException", "IllegalArgumentException",
            "IndexOutOfBoundsException");
    private static final Set<Tree.Kind> NOT_NEEDED = Set.of(Tree.Kind.LAMBDA_EXPRESSION, Tree.Kind.MEMBER_REFERENCE,
            Tree.Kind.TRY, Tree.Kind.SYNCHRONIZED, Tree.Kind.ASSERT, Tree.Kind.INSTANCE_OF, Tree.Kind.TYPE_CAST,
            Tree.Kind.SWITCH_EXPRESSION, Tree.Kind.DIVIDE_ASSIGNMENT, Tree.Kind.REMAINDER,
            Tree.Kind.REMAINDER_ASSIGNMENT);
    /** The methods that look at an index before they use it; no other one but a constructor may use an index. */
    private static final Set<String> GUARDS = Set.of("at", "put", "keptAt", "savedAt");
    private static final int MOST_PARAMETERS = 7;
    private static final int MOST_LINES = 60;
    private static final int MOST_CLASSES = 12;
    private static final int MOST_FIELDS = 20;
    private static final int DEEPEST = 8;

    /** Of each method of the file the ones of the file that it calls. */
    private static final Map<Element, Set<Element>> CALLS = new HashMap<>();
    private static int classes;

    private LanguageTest() {
    }

    public static void main(String[] args) throws IOException {
        signs();
        JavaCompiler compiler = ToolProvider.getSystemJavaCompiler();
        check("there is a compiler", compiler != null);
        try (StandardJavaFileManager files = compiler.getStandardFileManager(null, null, null)) {
            JavacTask task = (JavacTask) compiler.getTask(null, files, null, List.of("-proc:none"), null,
                    files.getJavaFileObjects(new File(SOURCE.toString())));
            Iterable<? extends CompilationUnitTree> units = task.parse();
            task.analyze();
            for (CompilationUnitTree unit : units) {
                check("the first line: there is no package line", unit.getPackage() == null);
                new Rules(unit, Trees.instance(task)).scan(unit, null);
            }
        }
        check("rule 11: the file has " + classes + " classes", classes > 0 && classes <= MOST_CLASSES);
        depths();
        Expect.end();
    }

    private static void check(String what, boolean holds) {
        Expect.due(what, holds ? 1 : 0, 1);
    }

    private static void signs() throws IOException {
        for (byte sign : Files.readAllBytes(SOURCE)) {
            if (sign < 32 && sign != '\n') {
                check("rule 4: the sign " + sign, false);
            }
        }
    }

    private static void depths() {
        for (Element method : CALLS.keySet()) {
            int depth = depth(method, new LinkedHashSet<>());
            check("rules 8 and 11: " + method + " goes " + depth + " deep", depth <= DEEPEST);
        }
    }

    /** The most calls that stand open at once, this one counted; too many of them if one of them stands open twice. */
    private static int depth(Element method, Set<Element> open) {
        if (!open.add(method)) {
            return DEEPEST + 1;
        }
        int deepest = 0;
        for (Element called : CALLS.getOrDefault(method, Set.of())) {
            deepest = Math.max(deepest, depth(called, open));
        }
        open.remove(method);
        return deepest + 1;
    }

    private static final class Rules extends TreePathScanner<Void, Void> {
        private final CompilationUnitTree unit;
        private final Trees trees;

        Rules(CompilationUnitTree unit, Trees trees) {
            this.unit = unit;
            this.trees = trees;
        }

        @Override
        public Void scan(Tree tree, Void nothing) {
            if (tree != null) {
                check("rules 2, 3, 6 and 7: " + tree.getKind() + " in line " + line(tree),
                        !NOT_NEEDED.contains(tree.getKind()));
            }
            return super.scan(tree, nothing);
        }

        @Override
        public Void visitImport(ImportTree tree, Void nothing) {
            check("rule 4: " + tree, tree.toString().trim().equals("import java.util.Arrays;"));
            return super.visitImport(tree, nothing);
        }

        @Override
        public Void visitClass(ClassTree tree, Void nothing) {
            classes++;
            Set<Modifier> modifiers = tree.getModifiers().getFlags();
            boolean inside = getCurrentPath().getParentPath().getLeaf() != unit;
            check("rule 2: " + tree.getSimpleName() + " is static or an enum", !inside
                    || modifiers.contains(Modifier.STATIC) || tree.getKind() == Tree.Kind.ENUM);
            check("rule 1: " + tree.getSimpleName() + " is not public", inside != modifiers.contains(Modifier.PUBLIC)
                    && !modifiers.contains(Modifier.PROTECTED));
            int fields = 0;
            List<String> names = new ArrayList<>();
            for (Tree member : tree.getMembers()) {
                check("rule 5: no block in line " + line(member), member.getKind() != Tree.Kind.BLOCK);
                if (member instanceof VariableTree field && !isStatic(field)) {
                    fields++;
                    names.add(field.getName().toString());
                }
            }
            check("rule 11: " + tree.getSimpleName() + " has the fields " + names, fields <= MOST_FIELDS);
            return super.visitClass(tree, nothing);
        }

        @Override
        public Void visitVariable(VariableTree tree, Void nothing) {
            if (isStatic(tree)) {
                boolean constant = List.of("int", "Command", "Command[]").contains(tree.getType().toString());
                check("rule 5: " + tree.getName() + " is final", constant
                        && tree.getModifiers().getFlags().contains(Modifier.FINAL));
            }
            return super.visitVariable(tree, nothing);
        }

        @Override
        public Void visitMethod(MethodTree tree, Void nothing) {
            CALLS.putIfAbsent(trees.getElement(getCurrentPath()), new HashSet<>());
            long lines = unit.getLineMap().getLineNumber(trees.getSourcePositions().getEndPosition(unit, tree))
                    - line(tree) + 1;
            check("rule 11: " + tree.getName() + " has " + lines + " lines", lines <= MOST_LINES);
            check("rule 11: parameters of " + tree.getName(), tree.getParameters().size() <= MOST_PARAMETERS);
            return super.visitMethod(tree, nothing);
        }

        @Override
        public Void visitMethodInvocation(MethodInvocationTree tree, Void nothing) {
            Element called = trees.getElement(new TreePath(getCurrentPath(), tree.getMethodSelect()));
            String name = called.getEnclosingElement().getSimpleName() + "." + called.getSimpleName();
            if (trees.getTree(called) == null || name.equals("Command.values")) {
                check("rule 4: " + name + " in line " + line(tree), LIBRARY.contains(name));
            } else if (method() != null) {
                CALLS.computeIfAbsent(trees.getElement(method()), key -> new HashSet<>()).add(called);
            }
            return super.visitMethodInvocation(tree, nothing);
        }

        @Override
        public Void visitThrow(ThrowTree tree, Void nothing) {
            check("rule 6: a throw of a new exception in line " + line(tree),
                    tree.getExpression() instanceof NewClassTree made
                            && EXCEPTIONS.contains(made.getIdentifier().toString())
                            && made.getArguments().stream().allMatch(LiteralTree.class::isInstance));
            check("rule 6: no throw in a constructor, line " + line(tree), !isConstructor(method()));
            return super.visitThrow(tree, nothing);
        }

        @Override
        public Void visitNewClass(NewClassTree tree, Void nothing) {
            boolean thrown = getCurrentPath().getParentPath().getLeaf().getKind() == Tree.Kind.THROW;
            check("rule 12: a call makes an object in line " + line(tree), thrown || isMadeOnce());
            return super.visitNewClass(tree, nothing);
        }

        @Override
        public Void visitNewArray(NewArrayTree tree, Void nothing) {
            check("rule 12: a call makes an array in line " + line(tree), isMadeOnce());
            return super.visitNewArray(tree, nothing);
        }

        @Override
        public Void visitArrayAccess(ArrayAccessTree tree, Void nothing) {
            boolean guarded = isConstructor(method()) || method() != null
                    && GUARDS.contains(trees.getElement(method()).getSimpleName().toString());
            check("rule 7: an index that is not looked at in line " + line(tree), guarded);
            return super.visitArrayAccess(tree, nothing);
        }

        @Override
        public Void visitBinary(BinaryTree tree, Void nothing) {
            if (tree.getKind() == Tree.Kind.PLUS) {
                noText(tree.getLeftOperand());
                noText(tree.getRightOperand());
            }
            if (tree.getKind() == Tree.Kind.DIVIDE) {
                // The guard stands on the same line, as in "b > 0 ? a / b : 0".
                String guard = tree.getRightOperand() + " > 0 ? " + tree + " : 0";
                Tree around = getCurrentPath().getParentPath().getLeaf();
                check("rule 7: a division without a guard in line " + line(tree), around.toString().equals(guard));
            }
            return super.visitBinary(tree, nothing);
        }

        @Override
        public Void visitCompoundAssignment(CompoundAssignmentTree tree, Void nothing) {
            noText(tree.getExpression());
            return super.visitCompoundAssignment(tree, nothing);
        }

        private void noText(ExpressionTree tree) {
            check("rule 10: a text is joined in line " + line(tree), tree.getKind() != Tree.Kind.STRING_LITERAL);
        }

        /** In a field's initialiser, or in a constructor. */
        private boolean isMadeOnce() {
            return method() == null || isConstructor(method());
        }

        private boolean isConstructor(TreePath method) {
            return method != null && trees.getElement(method).getKind() == ElementKind.CONSTRUCTOR;
        }

        private TreePath method() {
            for (TreePath path = getCurrentPath(); path != null; path = path.getParentPath()) {
                if (path.getLeaf() instanceof MethodTree) {
                    return path;
                }
            }
            return null;
        }

        private boolean isStatic(VariableTree tree) {
            return tree.getModifiers().getFlags().contains(Modifier.STATIC);
        }

        private long line(Tree tree) {
            return unit.getLineMap().getLineNumber(trees.getSourcePositions().getStartPosition(unit, tree));
        }
    }
}
