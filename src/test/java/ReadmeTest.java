import java.io.IOException;
import java.lang.reflect.Method;
import java.lang.reflect.Modifier;
import java.nio.file.Files;
import java.nio.file.Path;
import java.util.ArrayList;
import java.util.List;
import java.util.Set;
import java.util.TreeSet;
import java.util.regex.Matcher;
import java.util.regex.Pattern;
import javax.tools.JavaCompiler;
import javax.tools.ToolProvider;

/** What README.md says of the use of the class: its code is compiled and run, and its table has every call. */
public final class ReadmeTest {
    private static final Path README = Path.of("README.md");
    private static final Pattern BLOCK = Pattern.compile("(?s)```java\n(.*?)```");
    private static final Pattern ANSWERED = Pattern.compile("(.*\\));\\s*// (-?\\d+|true|false)(:.*)?");

    private ReadmeTest() {
    }

    public static void main(String[] args) throws Exception {
        String page = Files.readString(README);
        table(page);
        List<String> blocks = new ArrayList<>();
        Matcher m = BLOCK.matcher(page);
        while (m.find()) {
            blocks.add(m.group(1));
        }
        Calls.due("blocks of code in README.md", blocks.size(), 2);
        if (blocks.size() == 2) {
            run(blocks.get(0), answersLookedAt(blocks.get(1)), answersTold(blocks.get(1)));
        }
        Calls.close("ReadmeTest");
    }

    private static void table(String page) {
        List<String> told = new ArrayList<>();
        Matcher row = Pattern.compile("(?m)^\\| [^|]+ \\| ((`\\w+` )+)\\|$").matcher(
            page.substring(0, Math.max(0, page.indexOf("## How to run its tests"))));
        while (row.find()) {
            told.addAll(List.of(row.group(1).replace("`", "").trim().split(" ")));
        }
        Set<String> face = new TreeSet<>();
        for (Method method : PointedBench.class.getDeclaredMethods()) {
            if (Modifier.isPublic(method.getModifiers())) {
                face.add(method.getName());
            }
        }
        Calls.due("the table has each call once: " + told, told.size(), face.size());
        Calls.due("the table's calls: " + told, new TreeSet<>(told).equals(face), true);
    }

    private static long answersTold(String code) {
        long told = code.lines().filter(line -> ANSWERED.matcher(line).matches()).count();
        Calls.due("README.md tells answers", told > 0, true);
        return told;
    }

    /** The same code, in which each answer that a line tells is held against the call's. */
    private static String answersLookedAt(String code) {
        StringBuilder looked = new StringBuilder();
        for (String line : code.split("\n")) {
            Matcher m = ANSWERED.matcher(line);
            boolean calls = line.startsWith("x.") || line.startsWith("tell(");
            Calls.due("tells its answer: " + line, !calls || m.matches(), true);
            if (m.matches()) {
                String name = m.group(1).replace("\\", "\\\\").replace("\"", "\\\"");
                looked.append("due(\"" + name + "\", " + m.group(1) + ", " + m.group(2) + ");\n");
            } else {
                looked.append(line).append('\n');
            }
        }
        return looked.toString();
    }

    private static void run(String method, String body, long told) throws IOException, InterruptedException {
        String source = "public final class Example {\n"
            + "static int asked; static int wrong;\n"
            + "static void due(String call, Object got, Object want) { asked++;\n"
            + "if (!got.toString().equals(want.toString())) { wrong++;\n"
            + "System.out.println(\"README.md: \" + call + \" answered \" + got + \", due is \" + want); } }\n"
            + method + "public static void main(String[] args) {\n" + body
            + "System.out.println(asked); System.exit(wrong == 0 ? 0 : 1); }\n}\n";
        Path room = Files.createTempDirectory("readme");
        Path file = Files.writeString(room.resolve("Example.java"), source);
        String classes = System.getProperty("java.class.path");
        JavaCompiler compiler = ToolProvider.getSystemJavaCompiler();
        boolean isJava = compiler != null
            && compiler.run(null, null, null, "-cp", classes, "-d", room.toString(), file.toString()) == 0;
        Calls.due("README.md's code is Java", isJava, true);
        Files.delete(file);
        if (isJava) {
            start(room, classes, told);
            Files.delete(room.resolve("Example.class"));
        }
        Files.delete(room);
    }

    private static void start(Path room, String classes, long told) throws IOException, InterruptedException {
        Process process = new ProcessBuilder(Path.of(System.getProperty("java.home"), "bin", "java").toString(), "-cp",
            classes + System.getProperty("path.separator") + room, "Example").redirectErrorStream(true).start();
        String out = new String(process.getInputStream().readAllBytes()).trim();
        int code = process.waitFor();
        Calls.due("README.md's answers: " + out, code, 0);
        Calls.due("all of README.md's answers were looked at: " + out, out.equals(String.valueOf(told)), true);
    }
}
