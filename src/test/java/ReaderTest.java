import java.util.ArrayList;
import java.util.List;
import java.util.Random;
import java.util.regex.Matcher;
import java.util.regex.Pattern;

/** Promises 2 to 7, 17 and 39: the tape, texts, FAULTS and their places, what was told. */
public final class ReaderTest {
    private static final int NONE = PointedBench.NONE;

    public static void main(String[] args) {
        tape();
        cutTexts();
        goodTexts();
        countyFaults();
        yearFaults();
        logFaults();
        placesOfTexts();
        randomTexts();
        Calls.close("ReaderTest");
    }

    private static void faulty(int sort, String text, int fault, int place) {
        PointedBench x = new PointedBench();
        Calls.due("text of '" + text + "'", Calls.read(x, sort, NONE, text), fault == 0 ? 0 : NONE);
        Calls.due("fault(0) of '" + text + "'", x.fault(0), fault);
        Calls.due("fault(1) of '" + text + "'", x.fault(1), place);
        Calls.due("count of '" + text + "'", x.count(sort), fault == 0 ? 1 : 0);
        Calls.due("the tape behind '" + text + "'", x.end(1), NONE);
    }

    private static void tape() {
        PointedBench x = new PointedBench();
        Calls.due("end(0)", x.end(0), 0);
        Calls.due("end(1) of none", x.end(1), NONE);
        Calls.due("end(-1)", x.end(-1), NONE);
        for (int i = 1; i <= 30; i++) {
            Calls.due("feed " + i, x.feed(0x20202020, 0x20202020, 0x20202020, 0x20202020, 0x20202020), 20 * i);
        }
        Calls.due("feed beyond 600", x.feed(0, 0, 0, 0, 0), NONE);
        Calls.due("end(601)", x.end(601), NONE);
        Calls.due("end(581)", x.end(581), 581);
        Calls.due("feed at 581", x.feed(0, 0, 0, 0, 0), NONE);
        Calls.due("text of 581 blanks", x.text(0, NONE), 0);
        Calls.due("tape is empty then", x.end(1), NONE);
        Calls.due("men of blanks", x.county(0, 0), 0);
        Calls.due("children of blanks", x.county(0, 1), 0);
        Calls.due("end(580)", x.end(580), NONE);
        // The highest byte comes first, and the sign of a number does not matter.
        Calls.due("feed m a n blank", x.feed(0x6d616e20, 0x353b0a20, 0x20202020, 0x20202020, 0xff202020), 20);
        Calls.due("a byte of 255", x.text(0, NONE), NONE);
        Calls.due("fault of it", x.fault(0), 1);
        Calls.due("place of it", x.fault(1), 16);
        Calls.due("fault(2)", x.fault(2), NONE);
        Calls.due("fault(-1)", x.fault(-1), NONE);
    }

    private static void cut(String text, int n, int fault, int place) {
        PointedBench x = new PointedBench();
        Calls.feed(x, text, 0);
        Calls.due("end of '" + text + "'", x.end(n), n);
        Calls.due("text of '" + text + "' to " + n, x.text(0, NONE), fault == 0 ? 0 : NONE);
        Calls.due("fault of '" + text + "' to " + n, x.fault(0), fault);
        Calls.due("place of '" + text + "' to " + n, x.fault(1), place);
    }

    /** What stood behind the place where the tape was cut is no more. */
    private static void cutTexts() {
        cut("man 12;manman 3;", 3, 1, 3);
        cut("man 12;manman 3;", 4, 1, 4);
        cut("man 12;manman 3;", 5, 1, 5);
        cut("man 12;manman 3;", 6, 1, 6);
        cut("man 12;manman 3;", 7, 2, 4);
        cut("man 12;manman 3;", 10, 1, 10);
        cut("man 1 ;man 3;;man", 13, 0, NONE);
        PointedBench x = new PointedBench();
        Calls.feed(x, "man 10;", 0);
        Calls.due("cut", x.end(5), 5);
        Calls.feed(x, " ; man 7;", 5);
        Calls.due("and gone on with", x.text(0, NONE), 0);
        Calls.due("the first", x.county(0, 10), 1);
        Calls.due("the second", x.county(0, 11), 7);
    }

    private static void goodTexts() {
        PointedBench x = Calls.withCounty("likes 1 5 9 ;\nfears 0 2;has 0 5;man09;child 20 30;child00 0;man 3;"
            + "has 0 1;likes 1 5 4;likes 0 0 7;fears 0 2;fears 0 5;has 1 00;");
        int[][] due = {{0, 2}, {1, 2}, {10, 9}, {11, 3}, {12, NONE}, {16, NONE}, {20, 34}, {21, 1}, {22, NONE},
            {30, 20}, {31, 0}, {32, NONE}, {40, 30}, {41, 0}, {42, NONE}, {50, 36}, {51, 0}, {52, NONE}, {60, NONE},
            {99, NONE}, {100, 7}, {101, 0}, {105, 0}, {106, NONE}, {109, NONE}, {110, 0}, {115, 4}, {116, NONE},
            {120, NONE}, {2, NONE}, {9, NONE}, {-1, NONE}, {Integer.MIN_VALUE, NONE}, {Integer.MAX_VALUE, NONE}};
        for (int[] row : due) {
            Calls.due("county(0, " + row[0] + ")", x.county(0, row[0]), row[1]);
        }
        Calls.due("county(1, 0)", x.county(1, 0), NONE);
        Calls.due("county(-1, 0)", x.county(-1, 0), NONE);
        Calls.due("a year", Calls.read(x, 1, NONE, "show 0 1;hide5 5;scare 1 2;treat 3 4 9;out 5;pick;year;"), 0);
        int[][] deeds = {{0, 0, 1, NONE}, {1, 5, 5, NONE}, {2, 1, 2, NONE}, {3, 3, 4, 9}, {4, 5, NONE, NONE},
            {5, NONE, NONE, NONE}, {6, NONE, NONE, NONE}};
        for (int k = 0; k < deeds.length; k++) {
            for (int what = 0; what < 4; what++) {
                Calls.due("deed(0, " + k + ", " + what + ")", x.deed(0, k, what), deeds[k][what]);
            }
            Calls.due("deed what 4", x.deed(0, k, 4), -2);
            Calls.due("deed what -1", x.deed(0, k, -1), -2);
        }
        Calls.due("deeds", x.deed(0, NONE, 0), 7);
        Calls.due("deeds, what 1", x.deed(0, NONE, 1), -2);
        Calls.due("deed 7", x.deed(0, 7, 0), -2);
        Calls.due("deed -2", x.deed(0, -2, 0), -2);
        Calls.due("year 1", x.deed(1, NONE, 0), -2);
        Calls.due("year -1", x.deed(-1, NONE, 0), -2);
        Calls.due("a log", Calls.read(x, 2, NONE, "prefers 1 63;not 0 5;"), 0);
        int[][] facts = {{0, 1, 63}, {1, 0, 5}};
        for (int k = 0; k < facts.length; k++) {
            for (int what = 0; what < 3; what++) {
                Calls.due("fact(0, " + k + ", " + what + ")", x.fact(0, k, what), facts[k][what]);
            }
            Calls.due("fact what 3", x.fact(0, k, 3), -2);
            Calls.due("fact what -1", x.fact(0, k, -1), -2);
        }
        Calls.due("facts", x.fact(0, NONE, 0), 2);
        Calls.due("facts, what 2", x.fact(0, NONE, 2), -2);
        Calls.due("fact 2", x.fact(0, 2, 0), -2);
        Calls.due("log 1", x.fact(1, NONE, 0), -2);
        Calls.due("log -1", x.fact(-1, NONE, 0), -2);
        Calls.due("a second log", Calls.read(x, 2, NONE, "not 3 4;"), 1);
        Calls.due("its fact", x.fact(1, 0, 2), 4);
        Calls.due("its fact what 3", x.fact(1, 0, 3), -2);
        Calls.due("the first log stays", x.fact(0, NONE, 0), 2);
    }

    private static void countyFaults() {
        faulty(0, "", 0, NONE);
        faulty(0, " \n ", 0, NONE);
        faulty(0, "man 10;", 2, 4);
        faulty(0, "child 21 0;", 2, 6);
        faulty(0, "child 20 31;", 2, 9);
        faulty(0, "has 6 0;", 2, 4);
        faulty(0, "has 5 6;", 2, 6);
        faulty(0, "fears 6 0;", 2, 6);
        faulty(0, "fears 0 6;", 2, 8);
        faulty(0, "likes 6 0 0;", 2, 6);
        faulty(0, "likes 0 6 0;", 2, 8);
        faulty(0, "likes 0 0 10;", 2, 10);
        faulty(0, "likes 0 0 1;", 4, 12);
        faulty(0, "has 0 0;  ", 4, 10);
        faulty(0, "man 1;has 1 0;", 4, 14);
        faulty(0, "child 1 1;fears 1 0;", 4, 20);
        faulty(0, "man 1;fears 0 0;", 4, 16);
        faulty(0, "child 1 1;has 0 0;", 4, 18);
        faulty(0, "fears 0 0;child 1 1;", 0, NONE);
        faulty(0, "man 1;man 1;man 1;man 1;man 1;man 1;", 0, NONE);
        faulty(0, "man 1;man 1;man 1;man 1;man 1;man 1;man 1;", 3, 36);
        faulty(0, "man 1;man 1;man 1;man 1;man 1;man 1;man 77;has 9 9;", 3, 36);
        faulty(0, "man 1;man 1;man 1;man 1;man 10;man 1;man 1;", 2, 28);
        String child = "child 1 1;";
        faulty(0, child.repeat(6), 0, NONE);
        faulty(0, child.repeat(7), 3, 60);
        faulty(0, "has 0 0;" + child.repeat(7), 3, 68);
        // FAULT 1 goes ahead of all others, wherever it is.
        faulty(0, child.repeat(7) + "man 10;x", 1, 77);
        faulty(0, "man 10;man", 1, 10);
        faulty(0, "man 10;man ", 1, 11);
        faulty(0, "man 1", 1, 5);
        faulty(0, "man 100;", 1, 4);
        faulty(0, "man 001;", 1, 4);
        faulty(0, "man 1;100", 1, 6);
        faulty(0, "ma", 1, 0);
        faulty(0, "mann 1;", 1, 0);
        faulty(0, "childchildchild 1 1;", 1, 0);
        faulty(0, "man man 1;", 1, 4);
        faulty(0, "man 1 2;", 1, 6);
        faulty(0, "man;", 1, 3);
        faulty(0, ";", 1, 0);
        faulty(0, "man 1;;", 1, 6);
        faulty(0, "Man 1;", 1, 0);
        faulty(0, "man\t1;", 1, 3);
        faulty(0, "man -1;", 1, 4);
        faulty(0, "man 1;show 0 0;", 1, 6);
        faulty(0, "pick;", 1, 0);
        faulty(0, "man 1;\u0000", 1, 6);
        faulty(0, "man 1;\u00e9", 1, 6);
        faulty(0, "likes 0 0;", 1, 9);
        faulty(0, "has 0 0 0;", 1, 8);
        faulty(0, "has00;", 1, 5);
        faulty(0, "man 1;has0 0;", 0, NONE);
    }

    private static void yearFaults() {
        faulty(1, "", 0, NONE);
        faulty(1, "show 6 0;", 2, 5);
        faulty(1, "show 5 6;", 2, 7);
        faulty(1, "hide 6 0;", 2, 5);
        faulty(1, "hide 5 6;", 2, 7);
        faulty(1, "scare 6 0;", 2, 6);
        faulty(1, "scare 5 6;", 2, 8);
        faulty(1, "treat 6 0 1;", 2, 6);
        faulty(1, "treat 5 6 1;", 2, 8);
        faulty(1, "treat 5 5 0;", 2, 10);
        faulty(1, "treat 5 5 10;", 2, 10);
        faulty(1, "treat 5 5 1;treat 0 0 9;", 0, NONE);
        faulty(1, "out 6;", 2, 4);
        faulty(1, "out 5;", 0, NONE);
        faulty(1, "pick 1;", 1, 5);
        faulty(1, "hide 0;", 1, 6);
        faulty(1, "year", 1, 4);
        faulty(1, "man 1;", 1, 0);
        faulty(1, "not 1 1;", 1, 0);
        faulty(1, "pick;".repeat(40), 0, NONE);
        faulty(1, "pick;".repeat(41), 3, 200);
        faulty(1, "pick;".repeat(40) + "show 9 9;", 3, 200);
        faulty(1, "pick;".repeat(39) + "show 9 9;pick;", 2, 200);
        faulty(1, "pick;".repeat(45) + "?", 1, 225);
    }

    private static void logFaults() {
        faulty(2, "", 0, NONE);
        faulty(2, "prefers 64 0;", 2, 8);
        faulty(2, "prefers 63 64;", 2, 11);
        faulty(2, "not 0 64;", 2, 6);
        faulty(2, "not 63 63;", 0, NONE);
        faulty(2, "not 0 0;".repeat(8), 0, NONE);
        faulty(2, "not 0 0;".repeat(9), 3, 64);
        faulty(2, "not 0 0;".repeat(9) + "nots", 1, 72);
        faulty(2, "prefer 0 0;", 1, 0);
        faulty(2, "preferss 0 0;", 1, 0);
        faulty(2, "prefersnot 0 0;", 1, 0);
        faulty(2, "pick;", 1, 0);
    }

    private static void placesOfTexts() {
        PointedBench x = new PointedBench();
        for (int sort = 0; sort < 3; sort++) {
            Calls.due("count at first", x.count(sort), 0);
            Calls.due("text at 0 of none", x.text(sort, 0), -2);
            Calls.due("text at 1 of none", x.text(sort, 1), -2);
        }
        Calls.due("count(3)", x.count(3), -2);
        Calls.due("count(-1)", x.count(-1), -2);
        Calls.due("sort 3", x.text(3, NONE), -2);
        Calls.due("sort -1", x.text(-1, NONE), -2);
        Calls.due("fault at first", x.fault(0), 0);
        Calls.due("place at first", x.fault(1), NONE);
        Calls.due("0th", Calls.read(x, 0, NONE, "man 1;"), 0);
        Calls.due("1st", Calls.read(x, 0, NONE, "man 2;"), 1);
        Calls.due("a wrong one", Calls.read(x, 0, 0, "man"), NONE);
        Calls.due("its fault", x.fault(0), 1);
        Calls.due("the 0th stands", x.county(0, 10), 1);
        Calls.due("a 2nd", Calls.read(x, 0, NONE, "man 3;"), -2);
        Calls.due("FAULT 0 then", x.fault(0), 0);
        Calls.due("no place then", x.fault(1), NONE);
        tapeIsTaken(x, 0, NONE);
        tapeIsTaken(x, 0, 2);
        tapeIsTaken(x, 0, -2);
        tapeIsTaken(x, 1, 0);
        tapeIsTaken(x, 3, 0);
        tapeIsTaken(x, 3, NONE);
        tapeIsTaken(x, -1, NONE);
        Calls.due("in the place of 0", Calls.read(x, 0, 0, "man 3;"), 0);
        Calls.due("0 is another", x.county(0, 10), 3);
        Calls.due("1 is the same", x.county(1, 10), 2);
        Calls.due("count(0)", x.count(0), 2);
        Calls.due("count(1)", x.count(1), 0);
        Calls.due("a fresh one forgets", Calls.read(x, 0, 1, "child 1 1;"), 1);
        Calls.due("men of it", x.county(1, 0), 0);
        Calls.due("traits of none", x.county(1, 20), NONE);
        Calls.due("children, fears and likes", Calls.read(x, 0, 1, "man 1;has 0 0;child 1 1;fears 0 0;likes 0 0 9;"), 1);
        Calls.due("all are forgotten", Calls.read(x, 0, 1, "man 2;child 2 2;"), 1);
        int[][] due = {{0, 1}, {1, 1}, {10, 2}, {20, 0}, {30, 2}, {40, 2}, {50, 0}, {100, 0}};
        for (int[] row : due) {
            Calls.due("forgotten " + row[0], x.county(1, row[0]), row[1]);
        }
        Calls.due("a missing MAN", Calls.read(x, 0, 1, "has 5 0;likes 5 0 1;"), NONE);
        Calls.due("is forgotten, too", Calls.read(x, 0, 1, "man 1;child 1 1;has 0 0;likes 0 0 1;"), 1);
    }

    /** Where no text is read the tape is taken all the same: what comes next comes behind an empty one. */
    private static void tapeIsTaken(PointedBench x, int sort, int at) {
        String call = "text(" + sort + ", " + at + ")";
        Calls.feed(x, "man 4;", 0);
        Calls.due(call, x.text(sort, at), -2);
        Calls.due("FAULT behind " + call, x.fault(0), 0);
        Calls.due("place behind " + call, x.fault(1), NONE);
        Calls.due("end(1) behind " + call, x.end(1), NONE);
        Calls.due("end(0) behind " + call, x.end(0), 0);
        Calls.due("feed behind " + call, x.feed(0, 0, 0, 0, 0), 20);
        Calls.due("cut again", x.end(0), 0);
    }

    // ---- random texts, against a reader of another make ----

    record Fault(int fault, int place) {
    }

    private static final String[][] LINES = {
        {"man:9", "child:20,30", "has:5,5", "fears:5,5", "likes:5,5,9"},
        {"show:5,5", "hide:5,5", "scare:5,5", "treat:5,5,9", "out:5", "pick:", "year:"},
        {"prefers:63,63", "not:63,63"}};

    private static final Pattern TOKEN = Pattern.compile("[ \n]*(?:([a-z]+)|([0-9]+)|(;)|([^ \n])|$)", Pattern.DOTALL);

    /** The FAULT of a text, 0 without, and its place. */
    static Fault expected(int sort, String text) {
        Matcher m = TOKEN.matcher(text);
        List<Fault> later = new ArrayList<>();
        int men = 0;
        int children = 0;
        int lines = 0;
        int manTold = -1;
        int childTold = -1;
        while (true) {
            m.find();
            if (m.start(1) < 0) {
                if (m.start(2) < 0 && m.start(3) < 0 && m.start(4) < 0) {
                    break;
                }
                return new Fault(1, firstOf(m));
            }
            String shape = null;
            for (String line : LINES[sort]) {
                if (line.substring(0, line.indexOf(':')).equals(m.group(1))) {
                    shape = line;
                }
            }
            if (shape == null) {
                return new Fault(1, m.start(1));
            }
            lines++;
            String word = m.group(1);
            men += word.equals("man") ? 1 : 0;
            children += word.equals("child") ? 1 : 0;
            boolean tooMany = sort == 0 && (word.equals("man") && men > 6 || word.equals("child") && children > 6)
                || sort == 1 && lines > 40 || sort == 2 && lines > 8;
            if (tooMany) {
                later.add(new Fault(3, m.start(1)));
            }
            String limits = shape.substring(shape.indexOf(':') + 1);
            int i = 0;
            for (String limit : limits.isEmpty() ? new String[0] : limits.split(",")) {
                m.find();
                if (m.start(2) < 0 || m.group(2).length() > 2) {
                    return new Fault(1, m.start(2) >= 0 ? m.start(2) : firstOf(m));
                }
                int number = Integer.parseInt(m.group(2));
                int least = word.equals("treat") && i == 2 ? 1 : 0;
                if (number < least || number > Integer.parseInt(limit)) {
                    later.add(new Fault(2, m.start(2)));
                }
                if (i == 0 && word.equals("has")) {
                    manTold = Math.max(manTold, number);
                } else if (i == 0 && (word.equals("fears") || word.equals("likes"))) {
                    childTold = Math.max(childTold, number);
                }
                i++;
            }
            m.find();
            if (m.start(3) < 0) {
                return new Fault(1, firstOf(m));
            }
        }
        if (!later.isEmpty()) {
            return later.stream().min((a, b) -> a.place != b.place ? a.place - b.place : a.fault - b.fault).get();
        }
        boolean missing = sort == 0 && (manTold >= men || childTold >= children);
        return missing ? new Fault(4, text.length()) : new Fault(0, NONE);
    }

    private static int firstOf(Matcher m) {
        for (int group = 1; group <= 4; group++) {
            if (m.start(group) >= 0) {
                return m.start(group);
            }
        }
        return m.end();
    }

    private static String randomText(Random r, int sort) {
        StringBuilder text = new StringBuilder();
        int lines = r.nextInt(sort == 1 ? 46 : sort == 0 ? 30 : 11);
        int wild = r.nextInt(3) == 0 ? 25 : 100000;
        for (int i = 0; i < lines && text.length() < 560; i++) {
            String line = LINES[sort][r.nextInt(LINES[sort].length)];
            text.append(line, 0, line.indexOf(':'));
            String limits = line.substring(line.indexOf(':') + 1);
            for (String limit : limits.isEmpty() ? new String[0] : limits.split(",")) {
                int most = Integer.parseInt(limit);
                int number = r.nextInt(60) == 0 ? most + 1 : 1 + r.nextInt(most);
                text.append(" ").append(r.nextInt(8) == 0 && number < 10 ? "0" : "").append(number);
            }
            text.append(r.nextInt(6) == 0 ? " ;\n" : ";");
            if (r.nextInt(wild) == 0) {
                text.append(new String[] {"1", "pick", "Q", ";", "man", "123", "\u00ff", "not 1 "}[r.nextInt(8)]);
            }
        }
        if (r.nextInt(6) == 0 && text.length() > 0) {
            int at = r.nextInt(text.length());
            text.setCharAt(at, "a;0 9z\n@~".charAt(r.nextInt(9)));
        }
        if (r.nextInt(8) == 0) {
            text.setLength(r.nextInt(text.length() + 1));
        }
        return text.substring(0, Math.min(600, text.length()));
    }

    private static void randomTexts() {
        Random r = new Random(7);
        for (int i = 0; i < 30000; i++) {
            int sort = r.nextInt(3);
            String text = randomText(r, sort);
            Fault fault = expected(sort, text);
            faulty(sort, text, fault.fault, fault.place);
        }
    }
}
