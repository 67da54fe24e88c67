import com.sun.source.tree.AssertTree;
import com.sun.source.tree.BlockTree;
import com.sun.source.tree.ClassTree;
import com.sun.source.tree.CompilationUnitTree;
import com.sun.source.tree.DoWhileLoopTree;
import com.sun.source.tree.ExpressionTree;
import com.sun.source.tree.ForLoopTree;
import com.sun.source.tree.ImportTree;
import com.sun.source.tree.LambdaExpressionTree;
import com.sun.source.tree.LiteralTree;
import com.sun.source.tree.MemberReferenceTree;
import com.sun.source.tree.MethodInvocationTree;
import com.sun.source.tree.MethodTree;
import com.sun.source.tree.NewArrayTree;
import com.sun.source.tree.NewClassTree;
import com.sun.source.tree.PackageTree;
import com.sun.source.tree.SynchronizedTree;
import com.sun.source.tree.ThrowTree;
import com.sun.source.tree.Tree;
import com.sun.source.tree.TryTree;
import com.sun.source.tree.VariableTree;
import com.sun.source.tree.WhileLoopTree;
import com.sun.source.util.JavacTask;
import com.sun.source.util.TreePathScanner;
import com.sun.source.util.Trees;
import java.nio.file.Path;
import java.util.HashMap;
import java.util.HashSet;
import java.util.Map;
import java.util.Set;
import java.util.TreeSet;
import javax.lang.model.element.Element;
import javax.lang.model.element.ElementKind;
import javax.lang.model.element.ExecutableElement;
import javax.lang.model.element.Modifier;
import javax.tools.JavaCompiler;
import javax.tools.StandardJavaFileManager;
import javax.tools.ToolProvider;

/**
 * The class keeps to LANGUAGE.md. Where the class does without a thing that the rules let (while, try, new objects
 * in methods), it is refused here altogether: that is easier to see than the bounds it would need.
 */
public final class LanguageTest {
    private static final Due DUE = new Due();
    private static final String MAIN = "src/main/java/PacketTranslator.java";
    private static final Set<String> LIBRARY = Set.of("java.lang.System.arraycopy", "java.lang.Math.min",
        "java.lang.Math.max", "java.lang.Math.abs");
    private static final Set<String> EXCEPTIONS = Set.of("IllegalStateException", "IllegalArgumentException",
        "IndexOutOfBoundsException", "ArithmeticException", "UnsupportedOperationException",
        "NoSuchElementException", "RuntimeException");
    private static final Set<String> CONSTANTS = Set.of("int", "long", "boolean", "char", "java.lang.String",
        "int[]", "long[]", "char[]", "byte[]");

    public static void main(String[] args) throws Exception {
        JavaCompiler compiler = ToolProvider.getSystemJavaCompiler();
        try (StandardJavaFileManager files = compiler.getStandardFileManager(null, null, null)) {
            JavacTask task = (JavacTask) compiler.getTask(null, files, null, null, null,
                files.getJavaFileObjects(Path.of(MAIN)));
            Iterable<? extends CompilationUnitTree> units = task.parse();
            task.analyze();
            Walk walk = new Walk(Trees.instance(task));
            for (CompilationUnitTree unit : units) {
                walk.scan(unit, null);
            }
            walk.finish();
        }
        DUE.finish();
    }

    /** One way through the class's tree; what a rule refuses is told with its line. */
    private static final class Walk extends TreePathScanner<Void, Void> {
        private final Trees trees;
        private final Map<ExecutableElement, Set<ExecutableElement>> calls = new HashMap<>();
        private final Set<ExecutableElement> face = new HashSet<>();
        private final Map<String, Integer> fields = new HashMap<>();
        private ExecutableElement method = null;
        private int classes = 0;

        Walk(Trees trees) {
            this.trees = trees;
        }

        private Element here() {
            return trees.getElement(getCurrentPath());
        }

        private long line(long position) {
            return getCurrentPath().getCompilationUnit().getLineMap().getLineNumber(position);
        }

        private long lineOf(Tree tree) {
            CompilationUnitTree unit = getCurrentPath().getCompilationUnit();
            return line(trees.getSourcePositions().getStartPosition(unit, tree));
        }

        private void holds(int rule, Tree tree, String what, boolean kept) {
            DUE.about("rule " + rule);
            DUE.is("line " + lineOf(tree) + ", " + what, kept, true);
        }

        private void refuse(int rule, Tree tree, String what) {
            holds(rule, tree, what, false);
        }

        @Override
        public Void visitPackage(PackageTree tree, Void none) {
            refuse(1, tree, "a package");
            return super.visitPackage(tree, none);
        }

        @Override
        public Void visitImport(ImportTree tree, Void none) {
            refuse(4, tree, "an import");
            return super.visitImport(tree, none);
        }

        @Override
        public Void visitClass(ClassTree tree, Void none) {
            classes++;
            Element element = here();
            boolean outer = element.getEnclosingElement().getKind() == ElementKind.PACKAGE;
            Set<Modifier> has = element.getModifiers();
            if (outer) {
                holds(1, tree, "a public final class", has.contains(Modifier.PUBLIC) && has.contains(Modifier.FINAL));
            } else {
                boolean hidden = !has.contains(Modifier.PUBLIC) && !has.contains(Modifier.PROTECTED);
                holds(1, tree, "a hidden static class", hidden && has.contains(Modifier.STATIC));
            }
            return super.visitClass(tree, none);
        }

        @Override
        public Void visitBlock(BlockTree tree, Void none) {
            Tree parent = getCurrentPath().getParentPath().getLeaf();
            holds(5, tree, "no initialiser block", !(parent instanceof ClassTree));
            return super.visitBlock(tree, none);
        }

        @Override
        public Void visitMethod(MethodTree tree, Void none) {
            method = (ExecutableElement) here();
            calls.put(method, new HashSet<>());
            if (method.getModifiers().contains(Modifier.PUBLIC)) {
                face.add(method);
            }
            holds(11, tree, "seven parameters at most", tree.getParameters().size() <= 7);
            long start = trees.getSourcePositions().getStartPosition(getCurrentPath().getCompilationUnit(), tree);
            long end = trees.getSourcePositions().getEndPosition(getCurrentPath().getCompilationUnit(), tree);
            if (end >= 0) {
                holds(11, tree, "sixty lines at most", line(end) - line(start) < 60);
            }
            super.visitMethod(tree, none);
            method = null;
            return null;
        }

        @Override
        public Void visitVariable(VariableTree tree, Void none) {
            Element element = here();
            if (element.getKind() == ElementKind.FIELD) {
                field(tree, element);
            }
            return super.visitVariable(tree, none);
        }

        private void field(VariableTree tree, Element element) {
            Set<Modifier> has = element.getModifiers();
            if (has.contains(Modifier.STATIC)) {
                boolean constant = CONSTANTS.contains(element.asType().toString());
                holds(5, tree, "a constant", has.contains(Modifier.FINAL) && constant);
                boolean written = !element.asType().toString().endsWith("[]")
                    || tree.getInitializer() instanceof NewArrayTree row && row.getInitializers() != null;
                holds(5, tree, "a row that is written out", written);
            } else {
                fields.merge(element.getEnclosingElement().toString(), 1, Integer::sum);
            }
        }

        @Override
        public Void visitMethodInvocation(MethodInvocationTree tree, Void none) {
            Element called = here();
            String owner = called.getEnclosingElement().toString();
            if (owner.startsWith("PacketTranslator")) {
                if (method != null && called.getKind() == ElementKind.METHOD) {
                    calls.get(method).add((ExecutableElement) called);
                }
            } else if (called.getKind() == ElementKind.METHOD) {
                String name = owner + "." + called.getSimpleName();
                holds(4, tree, name + " is of the library's part", LIBRARY.contains(name));
            }
            return super.visitMethodInvocation(tree, none);
        }

        @Override
        public Void visitThrow(ThrowTree tree, Void none) {
            boolean made = false;
            if (tree.getExpression() instanceof NewClassTree fresh) {
                made = EXCEPTIONS.contains(fresh.getIdentifier().toString());
                for (ExpressionTree argument : fresh.getArguments()) {
                    made &= argument instanceof LiteralTree;
                }
            }
            holds(6, tree, "a new exception of those told, with a written text", made);
            holds(6, tree, "none in a constructor", method != null && method.getKind() == ElementKind.METHOD);
            return super.visitThrow(tree, none);
        }

        @Override
        public Void visitNewClass(NewClassTree tree, Void none) {
            boolean thrown = getCurrentPath().getParentPath().getLeaf() instanceof ThrowTree;
            holds(12, tree, "objects are made with their owner alone", method == null || thrown);
            holds(2, tree, "no class without a name", tree.getClassBody() == null);
            return super.visitNewClass(tree, none);
        }

        @Override
        public Void visitNewArray(NewArrayTree tree, Void none) {
            holds(12, tree, "rows are made with their owner alone", method == null);
            return super.visitNewArray(tree, none);
        }

        @Override
        public Void visitForLoop(ForLoopTree tree, Void none) {
            holds(9, tree, "a loop with an end", tree.getCondition() != null && !tree.getUpdate().isEmpty());
            return super.visitForLoop(tree, none);
        }

        @Override
        public Void visitWhileLoop(WhileLoopTree tree, Void none) {
            refuse(9, tree, "while");
            return super.visitWhileLoop(tree, none);
        }

        @Override
        public Void visitDoWhileLoop(DoWhileLoopTree tree, Void none) {
            refuse(9, tree, "do");
            return super.visitDoWhileLoop(tree, none);
        }

        @Override
        public Void visitTry(TryTree tree, Void none) {
            refuse(6, tree, "try");
            return super.visitTry(tree, none);
        }

        @Override
        public Void visitSynchronized(SynchronizedTree tree, Void none) {
            refuse(6, tree, "synchronized");
            return super.visitSynchronized(tree, none);
        }

        @Override
        public Void visitAssert(AssertTree tree, Void none) {
            refuse(6, tree, "assert");
            return super.visitAssert(tree, none);
        }

        @Override
        public Void visitLambdaExpression(LambdaExpressionTree tree, Void none) {
            refuse(2, tree, "a lambda");
            return super.visitLambdaExpression(tree, none);
        }

        @Override
        public Void visitMemberReference(MemberReferenceTree tree, Void none) {
            refuse(2, tree, "a method reference");
            return super.visitMemberReference(tree, none);
        }

        private int depth(ExecutableElement from, int above) {
            int deepest = above;
            if (above <= 20) {
                for (ExecutableElement called : calls.getOrDefault(from, Set.of())) {
                    deepest = Math.max(deepest, depth(called, above + 1));
                }
            }
            return deepest;
        }

        void finish() {
            Set<String> names = new TreeSet<>();
            for (ExecutableElement call : face) {
                names.add(call.getSimpleName().toString());
                DUE.about("rules 8 and 11");
                DUE.is(call + " goes eight calls deep at most", depth(call, 1) <= 8, true);
            }
            DUE.about("rule 1");
            for (ExecutableElement any : calls.keySet()) {
                boolean own = any.getKind() == ElementKind.METHOD && !face.contains(any);
                DUE.is(any + " bears a public name", own && names.contains(any.getSimpleName().toString()), false);
            }
            DUE.about("rule 11");
            DUE.is("twelve classes at most", classes <= 12, true);
            for (Map.Entry<String, Integer> entry : fields.entrySet()) {
                DUE.is(entry.getKey() + " has twenty fields at most", entry.getValue() <= 20, true);
            }
        }
    }
}
