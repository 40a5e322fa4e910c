import java.io.IOException;
import java.lang.reflect.Constructor;
import java.lang.reflect.Field;
import java.lang.reflect.Method;
import java.lang.reflect.Modifier;
import java.nio.file.Files;
import java.nio.file.Path;
import java.util.Random;
import java.util.Set;
import java.util.TreeSet;
import java.util.regex.Matcher;
import java.util.regex.Pattern;

/** The public face, the rules of LANGUAGE.md that can be looked at, and that no call ever throws or makes much. */
public final class FaceTest {
    private static final Path SOURCE = Path.of("src/main/java/PointedBench.java");
    private static final Path DOC = Path.of("../shared/DOC.md");
    private static final int[] EDGES = {Integer.MIN_VALUE, -10, -9, -2, -1, 0, 1, 2, 3, 4, 5, 6, 7, 9, 10, 13, 15, 16, 19,
        20, 25, 26, 30, 31, 40, 41, 50, 55, 59, 60, 61, 63, 64, 99, 100, 105, 106, 155, 159, 160, 738, 739,
        Integer.MAX_VALUE};

    public static void main(String[] args) throws Exception {
        members();
        words();
        sizes();
        wildCalls();
        room();
        Calls.close("FaceTest");
    }

    private static Set<String> faceOfDocument() throws IOException {
        Set<String> face = new TreeSet<>();
        Matcher m = Pattern.compile("\n    public (\\w+) (\\w+)\\(([^)]*)\\);").matcher(Files.readString(DOC));
        while (m.find()) {
            face.add(m.group(1) + " " + m.group(2) + "(" + m.group(3).replaceAll(" \\w+(,|$)", "$1") + ")");
        }
        return face;
    }

    private static void members() throws IOException {
        Set<String> face = new TreeSet<>();
        Set<String> names = new TreeSet<>();
        for (Method method : PointedBench.class.getDeclaredMethods()) {
            boolean isPublic = Modifier.isPublic(method.getModifiers());
            Calls.due("visible: " + method, isPublic || Modifier.isPrivate(method.getModifiers()), true);
            if (isPublic) {
                StringBuilder types = new StringBuilder();
                for (Class<?> type : method.getParameterTypes()) {
                    types.append(types.length() == 0 ? "" : ", ").append(type.getName());
                }
                face.add(method.getReturnType().getName() + " " + method.getName() + "(" + types + ")");
                names.add(method.getName());
            }
        }
        Calls.due("the document's methods", faceOfDocument().size(), 40);
        Calls.due("the face is " + face, face.equals(faceOfDocument()), true);
        Calls.due("public and final", PointedBench.class.getModifiers(), Modifier.PUBLIC | Modifier.FINAL);
        Calls.due("constructors", PointedBench.class.getDeclaredConstructors().length, 1);
        for (Constructor<?> constructor : PointedBench.class.getConstructors()) {
            Calls.due("its parameters", constructor.getParameterCount(), 0);
        }
        Set<Class<?>> all = new java.util.LinkedHashSet<>(Set.of(PointedBench.class.getDeclaredClasses()));
        Calls.due("classes", all.size() <= 11, true);
        for (Class<?> inside : all) {
            Calls.due("static: " + inside, Modifier.isStatic(inside.getModifiers()), true);
            Calls.due("not public: " + inside, Modifier.isPublic(inside.getModifiers()), false);
        }
        all.add(PointedBench.class);
        for (Class<?> one : all) {
            int own = 0;
            for (Field field : one.getDeclaredFields()) {
                boolean isStatic = Modifier.isStatic(field.getModifiers());
                own += isStatic ? 0 : 1;
                Calls.due("final: " + field, !isStatic || Modifier.isFinal(field.getModifiers()), true);
                boolean isFace = one == PointedBench.class && field.getName().equals("NONE");
                Calls.due("private: " + field, one != PointedBench.class || isFace
                    || Modifier.isPrivate(field.getModifiers()), true);
            }
            Calls.due("fields of " + one, own <= 20, true);
            for (Method method : one.getDeclaredMethods()) {
                boolean isFace = Modifier.isPublic(method.getModifiers()) && one == PointedBench.class;
                Calls.due("own name: " + method, isFace || !names.contains(method.getName()), true);
                Calls.due("parameters: " + method, method.getParameterCount() <= 7, true);
                Calls.due("no lambda: " + method, method.isSynthetic(), false);
            }
        }
    }

    private static String bareSource() throws IOException {
        return Files.readString(SOURCE).replaceAll("(?s)/\\*.*?\\*/", "").replaceAll("//[^\n]*", "");
    }

    private static void words() throws IOException {
        String source = bareSource();
        String[] banned = {"\\bthrow", "\\btry\\b", "\\bcatch\\b", "\\bsynchronized\\b", "\\bassert\\b", "->", "::",
            "\\bdouble\\b", "\\bfloat\\b", "\\bObject\\b", "\\bgoto\\b", "Exact\\(", "MAX_VALUE", "MIN_VALUE",
            "\\bstatic \\{", "\" *\\+", "\\+ *\"", "\\.hashCode", "\\.toString", "\\bfinalize", "\\bpackage\\b",
            "@", "\\bprotected\\b", "\\bnative\\b", "\\bvolatile\\b", "\\bvar\\b"};
        for (String word : banned) {
            Calls.due("no '" + word + "'", Pattern.compile(word).matcher(source).find(), false);
        }
        Set<String> library = new TreeSet<>();
        Matcher m = Pattern.compile("\\b(System|Arrays|Math|Integer|Long|String|StringBuilder|Thread|Runtime)\\.\\w+")
            .matcher(source);
        while (m.find()) {
            library.add(m.group());
        }
        Calls.due("the library: " + library, Set.of("Arrays.fill", "Integer.bitCount", "Math.abs", "Math.max",
            "Math.min", "System.arraycopy").containsAll(library), true);
        Matcher imports = Pattern.compile("(?m)^import (.*);").matcher(source);
        while (imports.find()) {
            Calls.due("import " + imports.group(1), imports.group(1).equals("java.util.Arrays"), true);
        }
        Matcher text = Pattern.compile("\"[^\"]*\"").matcher(source);
        while (text.find()) {
            Calls.due("signs of " + text.group(), text.group().matches("[\\x01-\\x7f]*"), true);
        }
    }

    private static void sizes() throws IOException {
        String head = "";
        int from = 0;
        int at = 0;
        for (String line : Files.readString(SOURCE).split("\n")) {
            at++;
            if (line.matches(" {4,8}(private |public |static |final )*[\\w\\[\\]]+ \\w+\\(.*\\) \\{")) {
                head = line.trim();
                from = at;
            }
            if (line.matches(" {4,8}\\}") && from > 0) {
                Calls.due("lines of " + head, at - from <= 60, true);
                from = 0;
            }
            Calls.due("width of line " + at, line.length() <= 130, true);
        }
    }

    private static Object argument(Class<?> type, Random r) {
        if (type == boolean.class) {
            return r.nextBoolean();
        }
        return r.nextInt(3) == 0 ? r.nextInt() : r.nextInt(2) == 0 ? r.nextInt(7) - 1 : EDGES[r.nextInt(EDGES.length)];
    }

    private static final String[][] TEXTS = {
        {"", "man 9;", "child 0 30;", "man 0;man 9;man 5;man 1;man 1;man 2;has 0 0;has 1 1;has 5 5;child 1 1;child 2 2;"
            + "child 3 3;child 4 4;child 5 5;child 6 30;likes 0 0 9;likes 1 1 8;likes 2 2 3;fears 3 0;fears 4 0;fears 5 5;"},
        {"", "pick;year;out 0;", "show 5 5;hide 5 5;scare 5 5;treat 5 5 9;pick;out 5;year;"},
        {"", "prefers 1 2;", "prefers 0 0;", "not 63 0;", "man 1;"}};

    private static void wildCalls() throws Exception {
        Random r = new Random(41);
        Method[] methods = PointedBench.class.getDeclaredMethods();
        java.util.Arrays.sort(methods, (a, b) -> a.toString().compareTo(b.toString()));
        for (int run = 0; run < 400; run++) {
            PointedBench x = new PointedBench();
            PointedBench twin = new PointedBench();
            for (int call = 0; call < 512; call++) {
                if (r.nextInt(8) == 0) {
                    int sort = r.nextInt(3);
                    String text = TEXTS[sort][r.nextInt(TEXTS[sort].length)];
                    int at = r.nextInt(3) - 1;
                    x.end(0);
                    twin.end(0);
                    Calls.due("twin text", Calls.read(x, sort, at, text), Calls.read(twin, sort, at, text));
                    continue;
                }
                Method method = methods[r.nextInt(methods.length)];
                if (!Modifier.isPublic(method.getModifiers())) {
                    continue;
                }
                Object[] values = new Object[method.getParameterCount()];
                for (int i = 0; i < values.length; i++) {
                    values[i] = argument(method.getParameterTypes()[i], r);
                }
                Object one = method.invoke(x, values);
                Object other = method.invoke(twin, values);
                Calls.due("twin " + method.getName(), one.equals(other), true);
            }
        }
    }

    /** All rows are made with the object: no call makes anything. */
    private static void room() {
        java.lang.management.ThreadMXBean bean = java.lang.management.ManagementFactory.getThreadMXBean();
        if (!(bean instanceof com.sun.management.ThreadMXBean counter)) {
            return;
        }
        long id = Thread.currentThread().getId();
        PointedBench x = Calls.withCounty(TEXTS[0][3]);
        Calls.read(x, 1, -1, TEXTS[1][2]);
        Calls.read(x, 2, -1, TEXTS[2][1]);
        dear(x);
        long ahead = counter.getThreadAllocatedBytes(id);
        for (int i = 0; i < 20; i++) {
            dear(x);
        }
        long made = counter.getThreadAllocatedBytes(id) - ahead;
        Calls.due("bytes made by calls: " + made, made < 4096, true);
        ahead = counter.getThreadAllocatedBytes(id);
        new PointedBench();
        made = counter.getThreadAllocatedBytes(id) - ahead;
        Calls.due("bytes made by a new object: " + made, made < 64000, true);
    }

    private static void dear(PointedBench x) {
        x.image(0);
        x.again(0);
        x.text(0, 0);
        x.again(0);
        x.rivals(0, 0, 1, 4, true);
        x.show(0, 5, true);
        x.agenda(0, 5, 0);
        x.wings(0, -1);
        x.trade(0, 0, 1);
        x.fits(0, 1);
        x.odds(0, 1, 2, true);
        x.after(0, 0, 3);
        x.drawn(0, 3, 60, 4);
        x.state(0, 0, 3, 4);
        x.runoff(0, 5);
        x.lies(0, 0);
        x.bun(0, 0, 5, true);
        x.later(0, 3, true);
        x.quiet(0, 1, 3, true, true);
    }
}
