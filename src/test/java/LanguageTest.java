import com.sun.source.tree.*;
import com.sun.source.util.JavacTask;
import com.sun.source.util.SourcePositions;
import com.sun.source.util.TreePath;
import com.sun.source.util.TreePathScanner;
import com.sun.source.util.Trees;
import java.io.IOException;
import java.nio.file.Path;
import java.util.HashMap;
import java.util.HashSet;
import java.util.Map;
import java.util.Set;
import javax.lang.model.element.Element;
import javax.lang.model.element.ElementKind;
import javax.lang.model.element.Modifier;
import javax.lang.model.type.TypeMirror;
import javax.tools.JavaCompiler;
import javax.tools.JavaFileObject;
import javax.tools.StandardJavaFileManager;
import javax.tools.ToolProvider;

/**
 * CoinRails.java keeps to a part of ../shared/LANGUAGE.md, what is easily seen in a syntax tree: of the rules 1 to 6, 10
 * and 11. That an index is looked at before it is used (7), that a loop ends (9) and how many objects a run makes (12)
 * is for readers, and so is each part of the language that the program does not use yet.
 */
public final class LanguageTest {
    private static final Path SOURCE = Path.of("src/main/java/CoinRails.java");
    private static final int MOST_CLASSES = 12;
    private static final int MOST_FIELDS = 20;
    private static final int MOST_LINES = 60;
    private static final int MOST_PARAMETERS = 7;
    private static final int MOST_CALLS_DEEP = 8;

    /** The plain types of rule 3, and what may stand in an array of two dimensions. */
    private static final Set<String> NUMBERS = Set.of("int", "long", "short", "byte", "char", "double", "float");
    private static final Set<String> OTHER_TYPES = Set.of("boolean", "java.lang.String", "java.lang.StringBuilder");
    private static final Set<String> CONSTANT_TYPES =
            Set.of("int", "long", "boolean", "char", "java.lang.String", "int[]", "long[]", "char[]", "byte[]");
    /** Of rule 4 only what the program uses. */
    private static final Set<String> CALLS = Set.of("java.lang.Math.max", "java.lang.Math.min",
            "java.lang.System.arraycopy", "java.lang.Object.<init>");
    private static final Set<String> EXCEPTIONS = Set.of("IllegalStateException", "IllegalArgumentException",
            "IndexOutOfBoundsException", "ArithmeticException", "UnsupportedOperationException",
            "NoSuchElementException", "RuntimeException");

    private static final Check check = new Check();

    public static void main(String[] args) throws IOException {
        JavaCompiler compiler = ToolProvider.getSystemJavaCompiler();
        try (StandardJavaFileManager files = compiler.getStandardFileManager(null, null, null)) {
            Iterable<? extends JavaFileObject> sources = files.getJavaFileObjects(SOURCE);
            JavacTask task = (JavacTask) compiler.getTask(null, files, null, null, null, sources);
            CompilationUnitTree file = task.parse().iterator().next();
            task.analyze();
            Reader reader = new Reader(Trees.instance(task), file);
            reader.scan(file, null);
            reader.end();
        }
        check.end();
    }

    private static final class Reader extends TreePathScanner<Void, Void> {
        private final Trees trees;
        private final CompilationUnitTree file;
        private final Map<Element, Set<Element>> calls = new HashMap<>();
        private int classes;

        Reader(Trees trees, CompilationUnitTree file) {
            this.trees = trees;
            this.file = file;
        }

        void end() {
            rule(1, "one public class", file.getTypeDecls().size() == 1);
            rule(1, "no package", file.getPackage() == null);
            rule(4, "no imports", file.getImports().isEmpty());
            rule(11, "twelve classes", classes <= MOST_CLASSES);
            for (Element method : calls.keySet()) {
                rule(11, "calls eight deep from " + method, depth(method, new HashSet<>()) <= MOST_CALLS_DEEP);
            }
        }

        private void rule(int rule, String what, boolean holds) {
            check.same("rule " + rule + ", " + what, holds ? 1 : 0, 1);
        }

        private void rule(int rule, Tree where, boolean holds) {
            long start = positions().getStartPosition(file, where);
            rule(rule, "line " + file.getLineMap().getLineNumber(start), holds);
        }

        private SourcePositions positions() {
            return trees.getSourcePositions();
        }

        private Element element(Tree tree) {
            return trees.getElement(new TreePath(getCurrentPath(), tree));
        }

        /** Recursion, of which the program has none, would be for readers (rule 8). */
        private int depth(Element method, Set<Element> open) {
            int most = 0;
            if (open.add(method)) {
                for (Element called : calls.getOrDefault(method, Set.of())) {
                    most = Math.max(most, depth(called, open));
                }
                open.remove(method);
            }
            return 1 + most;
        }

        private boolean isOwn(Element element) {
            Element outer = element;
            while (outer.getEnclosingElement().getKind() != ElementKind.PACKAGE) {
                outer = outer.getEnclosingElement();
            }
            return outer.getSimpleName().contentEquals("CoinRails");
        }

        @Override
        public Void visitClass(ClassTree tree, Void nothing) {
            classes++;
            Set<Modifier> flags = tree.getModifiers().getFlags();
            if (getCurrentPath().getParentPath().getLeaf() == file) {
                rule(1, tree, flags.equals(Set.of(Modifier.PUBLIC, Modifier.FINAL)));
            } else {
                boolean isSeen = flags.contains(Modifier.PUBLIC) || flags.contains(Modifier.PROTECTED);
                rule(1, tree, flags.contains(Modifier.STATIC) && !isSeen);
            }
            int fields = 0;
            for (Tree member : tree.getMembers()) {
                rule(5, member, !(member instanceof BlockTree block && block.isStatic()));
                boolean isField = member instanceof VariableTree field
                        && !field.getModifiers().getFlags().contains(Modifier.STATIC);
                fields += isField ? 1 : 0;
            }
            rule(11, tree, fields <= MOST_FIELDS);
            return super.visitClass(tree, nothing);
        }

        @Override
        public Void visitMethod(MethodTree tree, Void nothing) {
            calls.putIfAbsent(trees.getElement(getCurrentPath()), new HashSet<>());
            long first = file.getLineMap().getLineNumber(positions().getStartPosition(file, tree));
            long last = file.getLineMap().getLineNumber(positions().getEndPosition(file, tree));
            rule(11, tree, last - first < MOST_LINES);
            rule(11, tree, tree.getParameters().size() <= MOST_PARAMETERS);
            return super.visitMethod(tree, nothing);
        }

        @Override
        public Void visitVariable(VariableTree tree, Void nothing) {
            Element variable = trees.getElement(getCurrentPath());
            rule(3, tree, isAllowed(variable.asType()));
            if (variable.getModifiers().contains(Modifier.STATIC)) {
                rule(5, tree, variable.getModifiers().contains(Modifier.FINAL));
                rule(5, tree, CONSTANT_TYPES.contains(variable.asType().toString()));
            }
            return super.visitVariable(tree, nothing);
        }

        private boolean isAllowed(TypeMirror type) {
            String name = type.toString();
            String row = name.replaceFirst("\\[]$", "");
            boolean isPlain = NUMBERS.contains(row) || OTHER_TYPES.contains(row) || row.matches("CoinRails(\\.\\w+)?");
            return isPlain || NUMBERS.contains(row.replaceFirst("\\[]$", ""));
        }

        @Override
        public Void visitMethodInvocation(MethodInvocationTree tree, Void nothing) {
            Element called = element(tree.getMethodSelect());
            if (isOwn(called)) {
                calls.computeIfAbsent(methodAround(), m -> new HashSet<>()).add(called);
            } else {
                rule(4, tree, CALLS.contains(called.getEnclosingElement() + "." + called.getSimpleName()));
            }
            return super.visitMethodInvocation(tree, nothing);
        }

        @Override
        public Void visitNewClass(NewClassTree tree, Void nothing) {
            Element made = element(tree.getIdentifier());
            rule(4, tree, isOwn(made) || EXCEPTIONS.contains(made.getSimpleName().toString()));
            if (isOwn(made)) {
                calls.computeIfAbsent(methodAround(), m -> new HashSet<>()).add(trees.getElement(getCurrentPath()));
            }
            return super.visitNewClass(tree, nothing);
        }

        /** The method around a call, or the class whose field a call fills. */
        private Element methodAround() {
            TreePath path = getCurrentPath();
            while (!(path.getLeaf() instanceof MethodTree) && !(path.getLeaf() instanceof ClassTree)) {
                path = path.getParentPath();
            }
            return trees.getElement(path);
        }

        @Override
        public Void visitThrow(ThrowTree tree, Void nothing) {
            boolean isNew = tree.getExpression() instanceof NewClassTree;
            rule(6, tree, isNew);
            rule(6, tree, methodAround().getKind() == ElementKind.METHOD);
            if (tree.getExpression() instanceof NewClassTree made) {
                rule(6, tree, made.getArguments().isEmpty() || made.getArguments().get(0) instanceof LiteralTree);
                rule(6, tree, EXCEPTIONS.contains(made.getIdentifier().toString()));
            }
            return super.visitThrow(tree, nothing);
        }

        /** The program needs none; one that is added is to be looked at with rule 6 at hand. */
        @Override
        public Void visitTry(TryTree tree, Void nothing) {
            rule(6, tree, false);
            return super.visitTry(tree, nothing);
        }

        @Override
        public Void visitSynchronized(SynchronizedTree tree, Void nothing) {
            rule(6, tree, false);
            return super.visitSynchronized(tree, nothing);
        }

        @Override
        public Void visitAssert(AssertTree tree, Void nothing) {
            rule(6, tree, false);
            return super.visitAssert(tree, nothing);
        }

        @Override
        public Void visitLambdaExpression(LambdaExpressionTree tree, Void nothing) {
            rule(2, tree, false);
            return super.visitLambdaExpression(tree, nothing);
        }

        @Override
        public Void visitMemberReference(MemberReferenceTree tree, Void nothing) {
            rule(2, tree, false);
            return super.visitMemberReference(tree, nothing);
        }

        @Override
        public Void visitBinary(BinaryTree tree, Void nothing) {
            rule(10, tree, !isText());
            return super.visitBinary(tree, nothing);
        }

        @Override
        public Void visitCompoundAssignment(CompoundAssignmentTree tree, Void nothing) {
            rule(10, tree, !isText());
            return super.visitCompoundAssignment(tree, nothing);
        }

        private boolean isText() {
            return "java.lang.String".equals(String.valueOf(trees.getTypeMirror(getCurrentPath())));
        }
    }
}
