import com.sun.source.tree.BinaryTree;
import com.sun.source.tree.CompilationUnitTree;
import com.sun.source.tree.CompoundAssignmentTree;
import com.sun.source.tree.ConditionalExpressionTree;
import com.sun.source.tree.ExpressionStatementTree;
import com.sun.source.tree.ExpressionTree;
import com.sun.source.tree.ForLoopTree;
import com.sun.source.tree.IdentifierTree;
import com.sun.source.tree.IfTree;
import com.sun.source.tree.LiteralTree;
import com.sun.source.tree.MethodInvocationTree;
import com.sun.source.tree.ReturnTree;
import com.sun.source.tree.Tree;
import com.sun.source.tree.UnaryTree;
import com.sun.source.tree.WhileLoopTree;
import com.sun.source.util.JavacTask;
import com.sun.source.util.SourcePositions;
import com.sun.source.util.TreePathScanner;
import com.sun.source.util.Trees;
import java.io.ByteArrayOutputStream;
import java.io.IOException;
import java.io.OutputStream;
import java.io.PrintStream;
import java.io.StringWriter;
import java.lang.reflect.Method;
import java.net.URI;
import java.nio.file.Files;
import java.nio.file.Path;
import java.util.ArrayList;
import java.util.Arrays;
import java.util.Collections;
import java.util.HashMap;
import java.util.List;
import java.util.Map;
import java.util.TreeMap;
import java.util.concurrent.ExecutorService;
import java.util.concurrent.Executors;
import java.util.concurrent.Future;
import java.util.concurrent.atomic.AtomicReference;
import javax.tools.FileObject;
import javax.tools.ForwardingJavaFileManager;
import javax.tools.JavaCompiler;
import javax.tools.JavaFileManager;
import javax.tools.JavaFileObject;
import javax.tools.SimpleJavaFileObject;
import javax.tools.ToolProvider;

/**
 * Makes thousands of small changes of the class, one at a time, and tells which of them no sentence's test in EdgeTest
 * sees, and how many each sentence's test sees. Some six minutes; README.md says how to run it.
 */
public final class Mutants {
    private static final Path CLASS = Path.of("src/main/java/PointedBench.java");
    private static final int SECONDS = 15;
    private static final JavaCompiler JAVAC = ToolProvider.getSystemJavaCompiler();

    /** What stands in for a condition; javac can't see through it, so that no code is found to be dead. */
    private static final String ALWAYS = "(Integer.bitCount(1) == 1)";
    private static final String NEVER = "(Integer.bitCount(1) == 0)";
    /** Not a sign, but one of the two sides alone. */
    private static final String LEFT = "left";
    private static final String RIGHT = "right";

    private static final Map<Tree.Kind, String[]> OTHERS = new HashMap<>();

    static {
        OTHERS.put(Tree.Kind.LESS_THAN, new String[] {"<=", ">=", "!="});
        OTHERS.put(Tree.Kind.LESS_THAN_EQUAL, new String[] {"<", ">"});
        OTHERS.put(Tree.Kind.GREATER_THAN, new String[] {">=", "<=", "!="});
        OTHERS.put(Tree.Kind.GREATER_THAN_EQUAL, new String[] {">", "<"});
        OTHERS.put(Tree.Kind.EQUAL_TO, new String[] {"!="});
        OTHERS.put(Tree.Kind.NOT_EQUAL_TO, new String[] {"=="});
        OTHERS.put(Tree.Kind.CONDITIONAL_AND, new String[] {"||", LEFT, RIGHT});
        OTHERS.put(Tree.Kind.CONDITIONAL_OR, new String[] {"&&", LEFT, RIGHT});
        OTHERS.put(Tree.Kind.PLUS, new String[] {"-", LEFT, RIGHT});
        OTHERS.put(Tree.Kind.MINUS, new String[] {"+", LEFT});
        OTHERS.put(Tree.Kind.MULTIPLY, new String[] {"+", LEFT, RIGHT});
        OTHERS.put(Tree.Kind.DIVIDE, new String[] {"%", LEFT});
        OTHERS.put(Tree.Kind.REMAINDER, new String[] {"*", LEFT});
        OTHERS.put(Tree.Kind.AND, new String[] {"|", LEFT, RIGHT});
        OTHERS.put(Tree.Kind.OR, new String[] {"&", "^", LEFT, RIGHT});
        OTHERS.put(Tree.Kind.XOR, new String[] {"&", "|", LEFT});
        OTHERS.put(Tree.Kind.LEFT_SHIFT, new String[] {">>", LEFT});
        OTHERS.put(Tree.Kind.RIGHT_SHIFT, new String[] {">>>", "<<", LEFT});
        OTHERS.put(Tree.Kind.UNSIGNED_RIGHT_SHIFT, new String[] {">>", LEFT});
        OTHERS.put(Tree.Kind.PLUS_ASSIGNMENT, new String[] {"-=", "="});
        OTHERS.put(Tree.Kind.MINUS_ASSIGNMENT, new String[] {"+="});
        OTHERS.put(Tree.Kind.MULTIPLY_ASSIGNMENT, new String[] {"+=", "="});
        OTHERS.put(Tree.Kind.OR_ASSIGNMENT, new String[] {"^=", "=", "&="});
        OTHERS.put(Tree.Kind.AND_ASSIGNMENT, new String[] {"=", "|=", "^="});
        OTHERS.put(Tree.Kind.POSTFIX_INCREMENT, new String[] {"--"});
        OTHERS.put(Tree.Kind.POSTFIX_DECREMENT, new String[] {"++"});
    }

    private record Change(int from, int to, String with, long line) {
        String tell(String source) {
            return String.format("line %5d: %s  ==>  %s", line, source.substring(from, to), with).replaceAll("\\s+", " ");
        }
    }

    private Mutants() {
    }

    /** The directory with the compiled tests. */
    public static void main(String[] args) throws Exception {
        String source = Files.readString(CLASS);
        Map<String, byte[]> tests = testsOf(Path.of(args[0]));
        List<Change> changes = new Finder(source).find();
        Map<String, byte[]> unchanged = compile(source);
        PrintStream out = System.out;
        System.setOut(new PrintStream(OutputStream.nullOutputStream()));
        out.println(changes.size() + " changes; the class as it is: " + seenBy(unchanged, tests));
        List<String> unseen = Collections.synchronizedList(new ArrayList<>());
        Map<String, Integer> seen = Collections.synchronizedMap(new TreeMap<>());
        ExecutorService pool = Executors.newFixedThreadPool(Runtime.getRuntime().availableProcessors());
        List<Future<?>> all = new ArrayList<>();
        for (Change change : changes) {
            all.add(pool.submit(() -> {
                String changed = source.substring(0, change.from) + change.with + source.substring(change.to);
                Map<String, byte[]> classes = compile(changed);
                if (classes == null || isSame(classes, unchanged)) {
                    return null;
                }
                List<String> by = seenBy(classes, tests);
                by.forEach(sentence -> seen.merge(sentence, 1, Integer::sum));
                if (by.isEmpty()) {
                    unseen.add(change.tell(source));
                }
                return null;
            }));
        }
        for (Future<?> one : all) {
            one.get();
        }
        pool.shutdownNow();
        Collections.sort(unseen);
        unseen.forEach(line -> out.println("unseen, " + line));
        seen.forEach((sentence, many) -> out.println(many + " seen by " + sentence));
        out.println(unseen.size() + " unseen");
        System.exit(0);
    }

    private static Map<String, byte[]> testsOf(Path directory) throws IOException {
        Map<String, byte[]> tests = new HashMap<>();
        try (var files = Files.list(directory)) {
            for (Path file : files.toList()) {
                String name = file.getFileName().toString();
                if (name.endsWith(".class") && !name.startsWith("PointedBench")) {
                    tests.put(name.substring(0, name.length() - ".class".length()), Files.readAllBytes(file));
                }
            }
        }
        return tests;
    }

    private static boolean isSame(Map<String, byte[]> a, Map<String, byte[]> b) {
        return a.keySet().equals(b.keySet()) && a.keySet().stream().allMatch(name -> Arrays.equals(a.get(name), b.get(name)));
    }

    private static final class Source extends SimpleJavaFileObject {
        private final String text;

        Source(String text) {
            super(URI.create("string:///PointedBench.java"), Kind.SOURCE);
            this.text = text;
        }

        @Override
        public CharSequence getCharContent(boolean ignoreErrors) {
            return text;
        }
    }

    private static final class Target extends SimpleJavaFileObject {
        private final ByteArrayOutputStream bytes = new ByteArrayOutputStream();

        Target(String name) {
            super(URI.create("string:///" + name + ".class"), Kind.CLASS);
        }

        @Override
        public OutputStream openOutputStream() {
            return bytes;
        }
    }

    /** The classes of a source by name; null if it is no Java. */
    private static Map<String, byte[]> compile(String source) throws IOException {
        Map<String, Target> targets = new HashMap<>();
        try (JavaFileManager files = new ForwardingJavaFileManager<JavaFileManager>(JAVAC.getStandardFileManager(null, null, null)) {
            @Override
            public JavaFileObject getJavaFileForOutput(Location place, String name, JavaFileObject.Kind kind, FileObject near) {
                return targets.computeIfAbsent(name, Target::new);
            }
        }) {
            List<String> options = List.of("-nowarn", "-proc:none");
            if (!JAVAC.getTask(new StringWriter(), files, d -> { }, options, null, List.of(new Source(source))).call()) {
                return null;
            }
        }
        Map<String, byte[]> classes = new HashMap<>();
        targets.forEach((name, target) -> classes.put(name, target.bytes.toByteArray()));
        return classes;
    }

    private static final class Loader extends ClassLoader {
        private final Map<String, byte[]> classes = new HashMap<>();

        Loader(Map<String, byte[]> own, Map<String, byte[]> tests) {
            super(ClassLoader.getPlatformClassLoader());
            classes.putAll(tests);
            classes.putAll(own);
        }

        @Override
        protected Class<?> findClass(String name) throws ClassNotFoundException {
            byte[] bytes = classes.get(name);
            if (bytes == null) {
                throw new ClassNotFoundException(name);
            }
            return defineClass(name, bytes, 0, bytes.length);
        }
    }

    /** The sentences whose tests fail with these classes. */
    @SuppressWarnings({"deprecation", "removal"})
    private static List<String> seenBy(Map<String, byte[]> classes, Map<String, byte[]> tests) throws InterruptedException {
        AtomicReference<List<String>> failed = new AtomicReference<>(List.of("never ending"));
        Thread thread = new Thread(() -> {
            try {
                Loader loader = new Loader(classes, tests);
                call(loader, "EdgeTest", "tellAll");
                List<String> sentences = new ArrayList<>();
                for (Object sentence : (List<?>) call(loader, "Edges", "failed")) {
                    sentences.add((String) sentence);
                }
                failed.set(sentences);
            } catch (ReflectiveOperationException | RuntimeException thrown) {
                failed.set(List.of("throwing"));
            }
        });
        thread.setDaemon(true);
        thread.start();
        thread.join(1000L * SECONDS);
        if (thread.isAlive()) {
            // A loop that a change has made endless knows of no interrupt.
            thread.stop();
        }
        return failed.get();
    }

    private static Object call(Loader loader, String name, String method) throws ReflectiveOperationException {
        Method found = loader.loadClass(name).getDeclaredMethod(method);
        found.setAccessible(true);
        return found.invoke(null);
    }

    /** Finds all changes to be made. */
    private static final class Finder extends TreePathScanner<Void, Void> {
        private final String source;
        private final CompilationUnitTree unit;
        private final SourcePositions places;
        private final List<Change> changes = new ArrayList<>();

        Finder(String source) throws IOException {
            this.source = source;
            JavacTask task = (JavacTask) JAVAC.getTask(null, null, null, null, null, List.of(new Source(source)));
            unit = task.parse().iterator().next();
            places = Trees.instance(task).getSourcePositions();
        }

        List<Change> find() {
            scan(unit, null);
            return changes;
        }

        private String text(Tree tree) {
            return source.substring((int) places.getStartPosition(unit, tree), (int) places.getEndPosition(unit, tree));
        }

        private void change(Tree tree, String with) {
            int from = (int) places.getStartPosition(unit, tree);
            if (!text(tree).equals(with)) {
                changes.add(new Change(from, (int) places.getEndPosition(unit, tree), with, unit.getLineMap().getLineNumber(from)));
            }
        }

        private String[] others(Tree tree) {
            return OTHERS.getOrDefault(tree.getKind(), new String[0]);
        }

        @Override
        public Void visitBinary(BinaryTree tree, Void none) {
            String left = "(" + text(tree.getLeftOperand()) + ")";
            String right = "(" + text(tree.getRightOperand()) + ")";
            for (String other : others(tree)) {
                change(tree, other.equals(LEFT) ? left : other.equals(RIGHT) ? right : "(" + left + " " + other + " " + right + ")");
            }
            return super.visitBinary(tree, none);
        }

        @Override
        public Void visitCompoundAssignment(CompoundAssignmentTree tree, Void none) {
            for (String other : others(tree)) {
                change(tree, text(tree.getVariable()) + " " + other + " " + text(tree.getExpression()));
            }
            return super.visitCompoundAssignment(tree, none);
        }

        @Override
        public Void visitUnary(UnaryTree tree, Void none) {
            for (String other : others(tree)) {
                change(tree, text(tree.getExpression()) + other);
            }
            if (others(tree).length == 0) {
                change(tree, "(" + text(tree.getExpression()) + ")");
            }
            return super.visitUnary(tree, none);
        }

        @Override
        public Void visitLiteral(LiteralTree tree, Void none) {
            if (tree.getValue() instanceof Integer number) {
                change(tree, "(" + (number + 1) + ")");
                change(tree, "(" + (number - 1) + ")");
            } else if (tree.getValue() instanceof Boolean bool) {
                change(tree, String.valueOf(!bool));
            }
            return null;
        }

        @Override
        public Void visitIdentifier(IdentifierTree tree, Void none) {
            String name = tree.getName().toString();
            if (List.of("NONE", "MISSING", "NOBODY").contains(name)) {
                change(tree, name.equals("NONE") ? "MISSING" : "NONE");
                change(tree, "(0)");
            } else if (name.matches("[A-Z][A-Z_]+")) {
                change(tree, "(" + name + " + 1)");
                change(tree, "(" + name + " - 1)");
            }
            return super.visitIdentifier(tree, none);
        }

        @Override
        public Void visitConditionalExpression(ConditionalExpressionTree tree, Void none) {
            change(tree, "(" + text(tree.getTrueExpression()) + ")");
            change(tree, "(" + text(tree.getFalseExpression()) + ")");
            return super.visitConditionalExpression(tree, none);
        }

        @Override
        public Void visitIf(IfTree tree, Void none) {
            change(tree.getCondition(), ALWAYS);
            change(tree.getCondition(), NEVER);
            return super.visitIf(tree, none);
        }

        @Override
        public Void visitForLoop(ForLoopTree tree, Void none) {
            change(tree.getCondition(), NEVER);
            return super.visitForLoop(tree, none);
        }

        @Override
        public Void visitWhileLoop(WhileLoopTree tree, Void none) {
            change(tree.getCondition(), NEVER);
            return super.visitWhileLoop(tree, none);
        }

        @Override
        public Void visitReturn(ReturnTree tree, Void none) {
            if (tree.getExpression() != null) {
                for (String other : new String[] {"0", "1", "6", "-1", "-2", "true", "false"}) {
                    change(tree.getExpression(), other);
                }
            }
            return super.visitReturn(tree, none);
        }

        @Override
        public Void visitExpressionStatement(ExpressionStatementTree tree, Void none) {
            if (!(getCurrentPath().getParentPath().getLeaf() instanceof ForLoopTree)) {
                change(tree, ";");
            }
            return super.visitExpressionStatement(tree, none);
        }

        @Override
        public Void visitMethodInvocation(MethodInvocationTree tree, Void none) {
            String method = text(tree.getMethodSelect());
            if (method.startsWith("Math.")) {
                for (ExpressionTree argument : tree.getArguments()) {
                    change(tree, "(" + text(argument) + ")");
                }
                change(tree.getMethodSelect(), method.equals("Math.max") ? "Math.min" : "Math.max");
            }
            return super.visitMethodInvocation(tree, none);
        }
    }
}
