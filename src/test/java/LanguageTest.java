import com.sun.source.tree.AssertTree;
import com.sun.source.tree.BinaryTree;
import com.sun.source.tree.BlockTree;
import com.sun.source.tree.ClassTree;
import com.sun.source.tree.CompilationUnitTree;
import com.sun.source.tree.DoWhileLoopTree;
import com.sun.source.tree.ExpressionTree;
import com.sun.source.tree.ForLoopTree;
import com.sun.source.tree.IdentifierTree;
import com.sun.source.tree.ImportTree;
import com.sun.source.tree.LambdaExpressionTree;
import com.sun.source.tree.LiteralTree;
import com.sun.source.tree.MemberReferenceTree;
import com.sun.source.tree.MemberSelectTree;
import com.sun.source.tree.MethodInvocationTree;
import com.sun.source.tree.MethodTree;
import com.sun.source.tree.NewClassTree;
import com.sun.source.tree.SynchronizedTree;
import com.sun.source.tree.ThrowTree;
import com.sun.source.tree.Tree;
import com.sun.source.tree.TryTree;
import com.sun.source.tree.VariableTree;
import com.sun.source.tree.WhileLoopTree;
import com.sun.source.util.JavacTask;
import com.sun.source.util.SourcePositions;
import com.sun.source.util.TreePath;
import com.sun.source.util.TreePathScanner;
import com.sun.source.util.Trees;
import java.io.File;
import java.io.IOException;
import java.nio.charset.StandardCharsets;
import java.nio.file.Files;
import java.util.Arrays;
import java.util.HashMap;
import java.util.HashSet;
import java.util.List;
import java.util.Map;
import java.util.Set;
import javax.lang.model.element.Element;
import javax.lang.model.element.Modifier;
import javax.tools.JavaCompiler;
import javax.tools.StandardJavaFileManager;
import javax.tools.ToolProvider;

/** Those rules of LANGUAGE.md that the source's own shape shows: 1 to 6, 9 and 11. */
public final class LanguageTest {
    private static final Set<String> LIBRARY = new HashSet<>(Arrays.asList(
            "String", "StringBuilder", "Integer", "Long", "Math", "System", "Arrays", "ArrayList", "List",
            "Iterator", "Iterable", "Comparable"));
    private static final Set<String> OF_SYSTEM = new HashSet<>(Arrays.asList("arraycopy"));
    private static final Set<String> OF_ARRAYS = new HashSet<>(Arrays.asList("copyOf", "copyOfRange", "fill"));

    public static void main(String[] args) throws IOException {
        Due due = new Due();
        File file = new File(System.getProperty("project", "."), "src/main/java/OathPermit.java");
        for (byte sign : Files.readAllBytes(file.toPath())) {
            if (sign < 0) {
                due.holds("the source has signs 1 to 127 alone", false);
            }
        }
        JavaCompiler compiler = ToolProvider.getSystemJavaCompiler();
        StandardJavaFileManager files = compiler.getStandardFileManager(null, null, StandardCharsets.UTF_8);
        JavacTask task = (JavacTask) compiler.getTask(null, files, null, null, null, files.getJavaFileObjects(file));
        Trees trees = Trees.instance(task);
        Iterable<? extends CompilationUnitTree> units = task.parse();
        task.analyze();
        for (CompilationUnitTree unit : units) {
            due.holds("no package, one class", unit.getPackageName() == null && unit.getTypeDecls().size() == 1);
            new Rules(due, unit, trees.getSourcePositions()).scan(unit, null);
            Calls calls = new Calls(trees);
            calls.scan(unit, null);
            calls.judge(due);
        }
        files.close();
        due.finish();
    }

    private static final class Rules extends TreePathScanner<Void, Void> {
        private final Due due;
        private final CompilationUnitTree unit;
        private final SourcePositions positions;
        private final Set<String> own = new HashSet<>();
        private int classes = 0;

        Rules(Due due, CompilationUnitTree unit, SourcePositions positions) {
            this.due = due;
            this.unit = unit;
            this.positions = positions;
            for (Tree type : unit.getTypeDecls()) {
                own.add(((ClassTree) type).getSimpleName().toString());
                for (Tree member : ((ClassTree) type).getMembers()) {
                    if (member instanceof ClassTree) {
                        own.add(((ClassTree) member).getSimpleName().toString());
                    }
                }
            }
        }

        private long line(long position) {
            return unit.getLineMap().getLineNumber(position);
        }

        private void never(String what, Tree tree) {
            due.holds("no " + what + " (line " + line(positions.getStartPosition(unit, tree)) + ")", false);
        }

        @Override
        public Void visitImport(ImportTree tree, Void none) {
            String name = tree.getQualifiedIdentifier().toString();
            due.holds("import " + name, !tree.isStatic() && name.startsWith("java.util.")
                    && LIBRARY.contains(name.substring("java.util.".length())));
            return null;
        }

        @Override
        public Void visitClass(ClassTree tree, Void none) {
            classes++;
            due.holds("some twelve classes", classes <= 12);
            Tree parent = getCurrentPath().getParentPath().getLeaf();
            boolean outer = parent instanceof CompilationUnitTree;
            Set<Modifier> modifiers = tree.getModifiers().getFlags();
            due.holds(tree.getSimpleName() + " is static", outer || modifiers.contains(Modifier.STATIC));
            due.holds(tree.getSimpleName() + " stands in a class", outer || parent instanceof ClassTree);
            int fields = 0;
            for (Tree member : tree.getMembers()) {
                if (member instanceof BlockTree) {
                    never("initialiser block", member);
                }
                if (member instanceof VariableTree) {
                    Set<Modifier> flags = ((VariableTree) member).getModifiers().getFlags();
                    boolean isStatic = flags.contains(Modifier.STATIC);
                    due.holds("static " + ((VariableTree) member).getName() + " is final", !isStatic || flags.contains(Modifier.FINAL));
                    fields += isStatic ? 0 : 1;
                }
            }
            due.holds(tree.getSimpleName() + " has some twenty fields", fields <= 20);
            return super.visitClass(tree, none);
        }

        @Override
        public Void visitMethod(MethodTree tree, Void none) {
            long lines = line(positions.getEndPosition(unit, tree)) - line(positions.getStartPosition(unit, tree)) + 1;
            due.holds(tree.getName() + " takes at most seven parameters", tree.getParameters().size() <= 7);
            due.holds(tree.getName() + " has some sixty lines at most", lines <= 60);
            due.holds(tree.getName() + " throws nothing", tree.getThrows().isEmpty());
            return super.visitMethod(tree, none);
        }

        @Override
        public Void visitIdentifier(IdentifierTree tree, Void none) {
            String name = tree.getName().toString();
            if (name.length() > 1 && Character.isUpperCase(name.charAt(0)) && Character.isLowerCase(name.charAt(1))) {
                due.holds("class " + name + " is the program's or of the list", own.contains(name) || LIBRARY.contains(name));
            }
            return super.visitIdentifier(tree, none);
        }

        @Override
        public Void visitMemberSelect(MemberSelectTree tree, Void none) {
            String of = tree.getExpression().toString();
            String name = tree.getIdentifier().toString();
            due.holds(of + "." + name + " is in the list", (!of.equals("System") || OF_SYSTEM.contains(name))
                    && (!of.equals("Arrays") || OF_ARRAYS.contains(name)) && !name.endsWith("Exact")
                    && !of.equals("java") && !List.of("equals", "hashCode", "toString").contains(name));
            return super.visitMemberSelect(tree, none);
        }

        @Override
        public Void visitNewClass(NewClassTree tree, Void none) {
            if (tree.getClassBody() != null) {
                never("anonymous class", tree);
            }
            return super.visitNewClass(tree, none);
        }

        @Override
        public Void visitBinary(BinaryTree tree, Void none) {
            boolean text = isText(tree.getLeftOperand()) || isText(tree.getRightOperand());
            due.holds("no text is joined by +", tree.getKind() != Tree.Kind.PLUS || !text);
            return super.visitBinary(tree, none);
        }

        private static boolean isText(ExpressionTree tree) {
            return tree instanceof LiteralTree && ((LiteralTree) tree).getValue() instanceof String;
        }

        private void hasEnd(ExpressionTree condition, Tree loop) {
            String text = condition == null ? "" : condition.toString();
            if (text.isEmpty() || text.equals("true") || text.equals("(true)")) {
                never("loop without an end", loop);
            }
        }

        @Override
        public Void visitForLoop(ForLoopTree tree, Void none) {
            hasEnd(tree.getCondition(), tree);
            return super.visitForLoop(tree, none);
        }

        @Override
        public Void visitWhileLoop(WhileLoopTree tree, Void none) {
            hasEnd(tree.getCondition(), tree);
            return super.visitWhileLoop(tree, none);
        }

        @Override
        public Void visitDoWhileLoop(DoWhileLoopTree tree, Void none) {
            hasEnd(tree.getCondition(), tree);
            return super.visitDoWhileLoop(tree, none);
        }

        @Override
        public Void visitThrow(ThrowTree tree, Void none) {
            never("throw", tree);
            return null;
        }

        @Override
        public Void visitTry(TryTree tree, Void none) {
            never("try", tree);
            return null;
        }

        @Override
        public Void visitSynchronized(SynchronizedTree tree, Void none) {
            never("synchronized", tree);
            return null;
        }

        @Override
        public Void visitAssert(AssertTree tree, Void none) {
            never("assert", tree);
            return null;
        }

        @Override
        public Void visitLambdaExpression(LambdaExpressionTree tree, Void none) {
            never("lambda", tree);
            return null;
        }

        @Override
        public Void visitMemberReference(MemberReferenceTree tree, Void none) {
            never("method reference", tree);
            return null;
        }
    }

    /** Which method calls which: how deep calls go, library calls too. */
    private static final class Calls extends TreePathScanner<Void, Void> {
        private final Trees trees;
        private final Map<Element, Set<Element>> called = new HashMap<>();
        private Element inside = null;

        Calls(Trees trees) {
            this.trees = trees;
        }

        @Override
        public Void visitMethod(MethodTree tree, Void none) {
            inside = trees.getElement(getCurrentPath());
            called.put(inside, new HashSet<>());
            return super.visitMethod(tree, none);
        }

        @Override
        public Void visitMethodInvocation(MethodInvocationTree tree, Void none) {
            Element target = trees.getElement(new TreePath(getCurrentPath(), tree.getMethodSelect()));
            if (inside != null && target != null) {
                called.get(inside).add(target);
            }
            return super.visitMethodInvocation(tree, none);
        }

        void judge(Due due) {
            for (Element method : called.keySet()) {
                int depth = depth(method, 0);
                due.holds(method + " goes at most eight calls deep: " + depth, depth <= 8);
            }
        }

        private int depth(Element method, int above) {
            int deepest = 0;
            if (above < 20 && called.containsKey(method)) {
                for (Element next : called.get(method)) {
                    deepest = Math.max(deepest, depth(next, above + 1));
                }
            }
            return deepest + 1;
        }
    }
}
