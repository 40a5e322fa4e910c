/** What the tests share: feeding texts, and telling every call whose answer is not the one that is due. */
final class Calls {
    private static int wrong = 0;
    private static int asked = 0;

    private Calls() {
    }

    static void due(String call, long got, long want) {
        asked++;
        if (got != want) {
            wrong++;
            if (wrong <= 50) {
                System.out.println(call + " answered " + got + ", due is " + want);
            }
        }
    }

    static void due(String call, boolean got, boolean want) {
        due(call, got ? 1L : 0L, want ? 1L : 0L);
    }

    static int wrong() {
        return wrong;
    }

    static int asked() {
        return asked;
    }

    /** Puts a text behind the tape, by blocks of twenty bytes of which the last is cut. */
    static void feed(PointedBench x, String text, int tapeAhead) {
        for (int at = 0; at < text.length(); at += 20) {
            int[] five = new int[5];
            for (int i = 0; i < 20; i++) {
                int sign = at + i < text.length() ? text.charAt(at + i) : ' ';
                five[i / 4] = five[i / 4] << 8 | sign;
            }
            x.feed(five[0], five[1], five[2], five[3], five[4]);
        }
        due("end behind a text", x.end(tapeAhead + text.length()), tapeAhead + text.length());
    }

    /** Feeds a text to an empty tape and has it read. */
    static int read(PointedBench x, int sort, int at, String text) {
        feed(x, text, 0);
        return x.text(sort, at);
    }

    /** A new object with a COUNTY. */
    static PointedBench withCounty(String county) {
        PointedBench x = new PointedBench();
        due("text of " + county, read(x, 0, PointedBench.NONE, county), 0);
        return x;
    }

    /** A new object with a COUNTY and a YEAR. */
    static PointedBench withYear(String county, String year) {
        PointedBench x = withCounty(county);
        due("text of " + year, read(x, 1, PointedBench.NONE, year), 0);
        return x;
    }

    /** A new object with a LOG. */
    static PointedBench withLog(String log) {
        PointedBench x = new PointedBench();
        due("text of " + log, read(x, 2, PointedBench.NONE, log), 0);
        return x;
    }

    /** Ends the test: exit code 1 if an answer was not as due. */
    static void close(String name) {
        System.out.println(name + ": " + asked + " answers, " + wrong + " not as due");
        if (wrong != 0 || asked == 0) {
            System.exit(1);
        }
    }
}
