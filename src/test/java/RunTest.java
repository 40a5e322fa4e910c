import java.lang.reflect.Method;
import java.lang.reflect.Modifier;
import java.util.ArrayList;
import java.util.Arrays;
import java.util.Comparator;
import java.util.List;
import java.util.Random;

/** Whole runs of 512 calls by chance, each answer held against the model: texts in one another's places, images, wrong calls. */
public final class RunTest {
    private static final int RUNS = 800;
    private static final int CALLS = 512;
    private static final int[] EDGES = {Integer.MIN_VALUE, -10, -9, -2, -1, 0, 1, 2, 3, 4, 5, 6, 7, 8, 9, 10, 12, 15, 16, 19, 20,
        25, 26, 30, 31, 35, 40, 41, 45, 50, 55, 56, 59, 60, 61, 63, 64, 99, 100, 105, 106, 155, 156, 160, 600, 601, 738, 739,
        Integer.MAX_VALUE};
    private static final Random R = new Random(512);

    /** Of each call, what its numbers are mostly below; 0: they are any. */
    private static final String LIMITS = " feed:0,0,0,0,0 end:30 text:3,2 fault:2 county:2,160 deed:2,15,4 till:2,2 state:2,2,4,160 "
        + "picked:2,64 show:2,6,2 bench:2,6,2 power:2,6,2 ban:2,2 rivals:2,6,6,4,2 quiet:2,6,4,2,2 fact:2,5,3 fits:2,40 "
        + "drawn:2,0,60,160 duel:2,6,6 best:2,16 benches:2,6 trade:2,6,6 gang:2,2 kindest:2,6 freed:2,6 liked:2,6,2 unlike:2,6,6 "
        + "runoff:2,6 agenda:2,6,6 lies:2,6 bun:2,6,6,2 wings:2,6 later:2,20,2 fewest:2,6,2 after:2,2,6 odds:2,64,64,2 low:2,2 "
        + "count:3 image:3 again:3 ";
    private static final List<String> CHANGES = List.of("feed", "end", "text", "again");

    private RunTest() {
    }

    public static void main(String[] args) throws Exception {
        List<Method> methods = new ArrayList<>();
        for (Method method : PointedBench.class.getDeclaredMethods()) {
            if (Modifier.isPublic(method.getModifiers())) {
                methods.add(method);
            }
        }
        methods.sort(Comparator.comparing(Method::getName));
        for (int run = 0; run < RUNS; run++) {
            oneRun(methods, run);
        }
        Calls.close("RunTest");
    }

    private static void oneRun(List<Method> methods, int run) throws Exception {
        PointedBench x = new PointedBench();
        Model model = new Model();
        List<Object[]> ahead = new ArrayList<>();
        // Three runs of four begin with two of each sort.
        for (int sort = 0; sort < 6 && run % 4 != 0; sort++) {
            tell(ahead, sort % 3, PointedBench.NONE);
        }
        for (int call = 0; call < CALLS; call++) {
            if (ahead.isEmpty() && R.nextInt(30) == 0) {
                tell(ahead, R.nextInt(12) == 0 ? R.nextInt(5) - 1 : R.nextInt(3), R.nextInt(3) - 1);
            }
            if (ahead.isEmpty()) {
                ahead.add(anyCall(methods));
            }
            Object[] next = ahead.remove(0);
            Method method = named(methods, (String) next[0]);
            Object[] values = Arrays.copyOfRange(next, 1, next.length);
            Object got = method.invoke(x, values);
            long answer = got instanceof Boolean b ? (b ? 1 : 0) : ((Number) got).longValue();
            Calls.due("run " + run + ", call " + call + ": " + method.getName() + Arrays.toString(values), answer,
                model.answer(method.getName(), values));
        }
    }

    /** A call with its arguments; seldom one that changes what is told. */
    private static Object[] anyCall(List<Method> methods) {
        Method method = methods.get(R.nextInt(methods.size()));
        while (CHANGES.contains(method.getName()) && R.nextInt(8) != 0) {
            method = methods.get(R.nextInt(methods.size()));
        }
        Object[] call = new Object[1 + method.getParameterCount()];
        call[0] = method.getName();
        String limits = LIMITS.substring(LIMITS.indexOf(" " + method.getName() + ":") + method.getName().length() + 2);
        String[] limit = limits.substring(0, limits.indexOf(' ')).split(",");
        boolean wild = R.nextInt(6) == 0;
        for (int i = 1; i < call.length; i++) {
            if (method.getParameterTypes()[i - 1] == boolean.class) {
                call[i] = R.nextBoolean();
            } else if (wild && R.nextInt(3) == 0) {
                call[i] = R.nextInt(4) == 0 ? R.nextInt() : EDGES[R.nextInt(EDGES.length)];
            } else {
                int most = Integer.parseInt(limit[i - 1]) == 160 && R.nextBoolean() ? 60 : Integer.parseInt(limit[i - 1]);
                call[i] = most == 0 ? R.nextInt() : R.nextInt(12) == 0 ? most - 2 * R.nextInt(2) * most : R.nextInt(most);
            }
        }
        return call;
    }

    private static Method named(List<Method> methods, String name) {
        return methods.stream().filter(method -> method.getName().equals(name)).findFirst().orElseThrow();
    }

    /** The calls by which a text is fed, cut to its length and read. */
    private static void tell(List<Object[]> ahead, int sort, int at) {
        String text = text(sort);
        // Mostly behind an empty tape, else behind what is there.
        if (R.nextInt(12) != 0) {
            ahead.add(new Object[] {"end", 0});
        }
        for (int from = 0; from < text.length(); from += 20) {
            Object[] feed = {"feed", 0, 0, 0, 0, 0};
            for (int i = 0; i < 20; i++) {
                int sign = from + i < text.length() ? text.charAt(from + i) : ' ';
                feed[1 + i / 4] = (Integer) feed[1 + i / 4] << 8 | sign;
            }
            ahead.add(feed);
        }
        ahead.add(new Object[] {"end", text.length()});
        ahead.add(new Object[] {"text", sort, at});
        ahead.add(new Object[] {"fault", 0});
        ahead.add(new Object[] {"fault", 1});
    }

    private static String text(int sort) {
        String text;
        if (sort == 1) {
            text = year();
        } else if (sort == 2) {
            text = log();
        } else {
            text = Naive.random(R).text(R);
        }
        if (text.length() > 600) {
            text = text.substring(0, 600);
        }
        if (R.nextInt(10) == 0 && !text.isEmpty()) {
            int at = R.nextInt(text.length());
            text = text.substring(0, at) + "a;0 9z\n@7".charAt(R.nextInt(9)) + text.substring(at + 1);
        }
        return text;
    }

    private static String year() {
        String[] words = {"show", "hide", "scare", "treat", "out", "pick", "year", "pick"};
        StringBuilder text = new StringBuilder();
        int most = R.nextInt(R.nextInt(8) == 0 ? 43 : 20);
        int people = 1 + R.nextInt(6);
        for (int k = 0; k < most; k++) {
            int kind = R.nextInt(words.length);
            text.append(words[kind]);
            text.append(kind < 5 ? " " + R.nextInt(people) : "");
            text.append(kind < 4 ? " " + R.nextInt(6) : "");
            text.append(kind == 3 ? " " + (1 + R.nextInt(9)) : "");
            text.append(';');
        }
        return text.toString();
    }

    private static String log() {
        StringBuilder text = new StringBuilder();
        int most = R.nextInt(R.nextInt(8) == 0 ? 10 : 5);
        for (int k = 0; k < most; k++) {
            text.append(R.nextBoolean() ? "prefers " : "not ").append(R.nextInt(64)).append(' ').append(R.nextInt(64)).append(';');
        }
        return text.toString();
    }
}
