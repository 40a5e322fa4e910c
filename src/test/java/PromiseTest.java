/** Each promise, 1 to 41, by answers worked out by hand: ordinary inputs, the document's edges, wrong inputs. */
public final class PromiseTest {
    private static final int NONE = PointedBench.NONE;
    private static final int MIN = Integer.MIN_VALUE;
    private static final int MAX = Integer.MAX_VALUE;

    /** MEN 3 {0, 1}, 7 {1, 2}, 5 {3}; CHILDREN 0 and 1 (of 12 years) have a VOTE, 2 is 13, the father of 3 is out. */
    private static final String COUNTY = "man 3;man 7;man 5;child 4 10;child 12 30;child 13 5;child 8 0;"
        + "has 0 0;has 0 1;has 1 1;has 1 2;has 2 3;likes 0 0 5;likes 0 2 2;likes 1 1 1;likes 1 3 4;likes 2 2 9;"
        + "likes 3 3 1;fears 1 3;fears 0 4;";
    private static final String YEAR = "pick;show 1 0;treat 0 2 9;pick;scare 0 1;pick;year;out 1;hide 2 3;year;pick;"
        + "out 0;out 0;";

    public static void main(String[] args) {
        anew();
        deedsAndStates();
        edgesOfDeeds();
        picked();
        show();
        benchAndFewest();
        power();
        ban();
        rivals();
        quiet();
        fits();
        drawn();
        duelsAndBest();
        sixOfEach();
        trade();
        gangAndKindest();
        freedLikedUnlike();
        runoffAndAgenda();
        lies();
        bun();
        wings();
        later();
        after();
        oddsAndLow();
        images();
        emptyCounty();
        noneSuch();
        Calls.close("PromiseTest");
    }

    private static void anew() {
        PointedBench x = new PointedBench();
        for (int sort = 0; sort < 3; sort++) {
            Calls.due("1: count(" + sort + ")", x.count(sort), 0);
        }
        for (int k = -1; k < 4; k++) {
            Calls.due("1: again(" + k + ")", x.again(k), false);
        }
        Calls.due("1: fault(0)", x.fault(0), 0);
        Calls.due("1: fault(1)", x.fault(1), NONE);
        Calls.due("1: end(0)", x.end(0), 0);
        Calls.due("1: end(1)", x.end(1), NONE);
        Calls.due("NONE", NONE, -1);
    }

    private static void deedsAndStates() {
        PointedBench x = Calls.withCounty(COUNTY);
        Calls.due("the year", Calls.read(x, 1, NONE, YEAR), 0);
        // The 8th DEED, out 1: MAN 0 with a KINDNESS of 3 is the gaoler, the TERM is 29: it can be.
        // The 12th, out 0: the TERM is 8, and so it can; the 13th can't, as it is 0 then.
        Calls.due("8: till", x.till(0, 0), 12);
        int[][] due = {
            // n, year, gaoler, picks, votes, would be picked, outs
            {0, 0, 6, 0, 3, 0, 0}, {1, 0, 0, 1, 3, 0, 0}, {2, 0, 0, 1, 3, 0, 0}, {3, 0, 0, 1, 3, 0, 0},
            {4, 0, 0, 2, 3, 0, 0}, {5, 0, 0, 2, 3, 0, 0}, {6, 0, 0, 3, 3, 0, 0}, {7, 1, 0, 3, 1, 2, 0},
            {8, 1, 0, 3, 1, 2, 1}, {9, 1, 0, 3, 1, 2, 1}, {10, 2, 0, 3, 1, 2, 1}, {11, 2, 2, 4, 1, 2, 1},
            {12, 2, 2, 4, 0, 6, 2}};
        for (int[] row : due) {
            for (int what = 0; what < 6; what++) {
                Calls.due("9: state " + row[0] + ", " + what, x.state(0, 0, row[0], what), row[what + 1]);
            }
        }
        int[][] last = {{10, 3}, {11, 7}, {12, 0}, {13, NONE}, {20, 6}, {21, 14}, {22, 15}, {23, 10}, {24, NONE},
            {30, 0}, {31, 0}, {32, 3}, {33, 0}, {40, 18}, {41, 8}, {42, 0}, {50, 2}, {51, 0}, {52, 1}, {53, 0},
            {54, NONE}, {100, 5}, {102, 9}, {105, 0}, {106, NONE}, {113, 4}, {122, 9}, {133, 1}, {140, NONE},
            {6, NONE}, {60, NONE}, {-1, NONE}, {MIN, NONE}, {MAX, NONE}};
        for (int[] row : last) {
            Calls.due("9: state 12, " + row[0], x.state(0, 0, 12, row[0]), row[1]);
        }
        Calls.due("9: state 13", x.state(0, 0, 13, 0), NONE);
        Calls.due("9: state 14", x.state(0, 0, 14, 0), NONE);
        Calls.due("9: state -1", x.state(0, 0, -1, 0), NONE);
        Calls.due("9: the COUNTY stays as told", x.county(0, 40), 10);
        Calls.due("36: FIRST", x.after(0, 0, 0), 0);
        Calls.due("36: CHANGES", x.after(0, 0, 1), 2);
        Calls.due("36: REIGN", x.after(0, 0, 2), 0);
        // CHILD 0: 0 to 1 by the treat, to 2 by the scare; CHILD 1: 0 by the show; CHILD 2: never.
        Calls.due("36: FICKLE", x.after(0, 0, 3), 0);
        Calls.due("36: SHOWN", x.after(0, 0, 4), 1);
        Calls.due("36: SCARED", x.after(0, 0, 5), 1);
        Calls.due("36: 6", x.after(0, 0, 6), -2);
        Calls.due("36: -1", x.after(0, 0, -1), -2);
    }

    private static int till(String county, String year) {
        PointedBench x = Calls.withCounty(county);
        Calls.read(x, 1, NONE, year);
        return x.till(0, 0);
    }

    private static void edgesOfDeeds() {
        String one = "man 3;child 12 30;";
        Calls.due("8: no deeds", till(one, ""), 0);
        Calls.due("8: a show of what he HAS", till(one, "show 0 0;show 0 0;hide 0 0;hide 0 0;"), 4);
        Calls.due("8: no such man", till(one, "pick;show 1 0;"), 1);
        Calls.due("8: no such man to hide", till(one, "pick;hide 5 0;"), 1);
        Calls.due("8: no such child to scare", till(one, "scare 0 0;scare 0 0;scare 1 0;"), 2);
        Calls.due("8: no such child to treat", till(one, "treat 0 0 9;treat 0 0 9;treat 1 0 1;"), 2);
        Calls.due("8: no such child to get out", till(one, "pick;out 1;"), 1);
        Calls.due("8: out without a gaoler", till(one, "out 0;"), 0);
        Calls.due("8: out of 30 by 3", till(one, "pick;out 0;"), 2);
        Calls.due("8: out of 30 by 2", till("man 2;child 12 30;", "pick;out 0;"), 1);
        Calls.due("8: out of 20 by 2 later", till("man 2;child 2 21;", "pick;year;out 0;"), 3);
        Calls.due("8: out of 0", till("man 2;child 2 1;", "pick;year;out 0;"), 2);
        Calls.due("8: nobody is picked, so nobody is the gaoler", till("man 2;child 2 1;has 0 0;",
            "pick;scare 0 0;pick;out 0;"), 3);
        PointedBench x = Calls.withCounty("man 9;child 12 3;likes 0 1 5;");
        Calls.due("a year", Calls.read(x, 1, NONE, "treat 0 1 3;treat 0 1 3;year;" + "year;".repeat(37)), 0);
        Calls.due("9: likes 8", x.state(0, 0, 1, 101), 8);
        Calls.due("9: likes 9 at most", x.state(0, 0, 2, 101), 9);
        Calls.due("9: votes at 12", x.state(0, 0, 2, 3), 1);
        Calls.due("9: not at 13", x.state(0, 0, 3, 3), 0);
        Calls.due("8: 38 years", x.till(0, 0), 40);
        Calls.due("9: the year", x.state(0, 0, 40, 0), 38);
        Calls.due("9: the age", x.state(0, 0, 40, 20), 50);
        Calls.due("9: the term", x.state(0, 0, 40, 30), 0);
        Calls.due("9: got out by out alone", x.state(0, 0, 40, 5), 0);
        Calls.due("36: FIRST none", x.after(0, 0, 0), NONE);
        Calls.due("36: CHANGES none", x.after(0, 0, 1), 0);
        Calls.due("36: REIGN none", x.after(0, 0, 2), NONE);
        Calls.due("36: FICKLE none", x.after(0, 0, 3), NONE);
    }

    private static void picked() {
        // CHILDREN 0 and 2 POINT to 1, 1 to 0, 3 to nobody, 4 to 0, but is too old.
        PointedBench x = Calls.withCounty("man 0;man 0;child 1 1;child 1 1;child 1 1;child 1 1;child 13 1;has 0 0;has 1 1;"
            + "likes 0 1 1;likes 2 1 1;fears 3 0;fears 3 1;");
        int[] due = {6, 1, 0, 0, 1, 1, 0, 1, 6, 1, 0, 0, 1, 1, 0, 1};
        for (int bench = 0; bench < 64; bench++) {
            Calls.due("10: picked " + bench, x.picked(0, bench), due[bench & 15]);
        }
        Calls.due("10: 64", x.picked(0, 64), NONE);
        Calls.due("10: -1", x.picked(0, -1), NONE);
        Calls.due("10: min", x.picked(0, MIN), NONE);
        Calls.due("10: county 1", x.picked(1, 1), NONE);
        Calls.due("22: benches of 0", x.benches(0, 0), 6);
        Calls.due("22: benches of 1", x.benches(0, 1), 8);
        Calls.due("22: benches of 2", x.benches(0, 2), NONE);
    }

    private static void show() {
        PointedBench x = Calls.withCounty("man 0;man 0;man 0;child 1 1;child 1 1;child 20 1;has 0 0;has 2 5;likes 0 0 4;"
            + "likes 0 1 3;likes 0 2 2;likes 0 3 5;likes 1 0 1;likes 1 1 2;fears 1 5;fears 0 3;likes 2 4 9;");
        Calls.due("11: 0 is picked", x.show(0, 0, false), 0);
        Calls.due("11: so he shows nothing", x.show(0, 0, true), 0);
        // 1 must have both: CHILD 0 by above 4 without 3, CHILD 1 by above 1: 0 with 1 (7, 3), or 1 with 2 (5, 2).
        Calls.due("11: 1 shows two", x.show(0, 1, false), 2);
        Calls.due("11: 1 shows 0 and 1", x.show(0, 1, true), 3);
        Calls.due("11: 2 is feared by one, the tie is 0's", x.show(0, 2, false), NONE);
        Calls.due("11: so which is none", x.show(0, 2, true), NONE);
        Calls.due("11: man 3", x.show(0, 3, false), NONE);
    }

    private static void benchAndFewest() {
        // 0, 1, 2 POINT to 1; 3, 4 to 0; 5 to 2 and has no VOTE.
        PointedBench x = Calls.withCounty("man 0;man 0;man 0;child 1 1;child 1 1;child 1 1;child 1 1;child 1 1;child 1 0;"
            + "has 1 1;has 2 2;likes 0 1 1;likes 1 1 1;likes 2 1 1;likes 5 2 1;");
        Calls.due("12: 1 by all", x.bench(0, 1, false), 5);
        Calls.due("12: 1 by which", x.bench(0, 1, true), 31);
        Calls.due("12: 0 by four", x.bench(0, 0, false), 4);
        Calls.due("12: 0 by which", x.bench(0, 0, true), 27);
        Calls.due("12: 2 by none", x.bench(0, 2, false), NONE);
        Calls.due("12: 2 by none, which", x.bench(0, 2, true), NONE);
        Calls.due("35: 1 by one", x.fewest(0, 1, false), 1);
        Calls.due("35: 1 by which", x.fewest(0, 1, true), 1);
        Calls.due("35: 0 by one", x.fewest(0, 0, false), 1);
        Calls.due("35: 0 by which", x.fewest(0, 0, true), 8);
        Calls.due("35: 2 by none", x.fewest(0, 2, false), NONE);
        Calls.due("35: 2 by none, which", x.fewest(0, 2, true), NONE);
        // Of (0, 1, 2) one without (3, 4), two with one of these at most, or three with any.
        Calls.due("22: benches of 1", x.benches(0, 1), 3 * 1 + 3 * 3 + 1 * 4);
    }

    private static void fraction(String call, long n, long d, long dueN, long dueD) {
        Calls.due(call + ", N", n, dueN);
        Calls.due(call + ", D", d, dueD);
    }

    private static void power() {
        // 0 and 1 POINT to 1, 2 to 0, 3 to nobody, 4 has no VOTE.
        PointedBench x = Calls.withCounty("man 0;man 0;child 1 1;child 1 1;child 1 1;child 1 1;child 13 1;has 0 0;has 1 1;"
            + "likes 0 1 1;likes 1 1 1;fears 3 0;fears 3 1;");
        // 0: with {} 6 to 1; {1} no; {2} no, 0 stays by the tie; {1, 2} 0 to 1: 2 of 4, 3 being in or not.
        fraction("13: child 0", x.power(0, 0, false), x.power(0, 0, true), 1, 2);
        // 2: {} 6 to 0; {0} 1 to 0; {1} 1 to 0; {0, 1} no: 3 of 4.
        fraction("13: child 2", x.power(0, 2, false), x.power(0, 2, true), 3, 4);
        fraction("13: child 3", x.power(0, 3, false), x.power(0, 3, true), 0, 1);
        fraction("13: child 4", x.power(0, 4, false), x.power(0, 4, true), NONE, NONE);
        fraction("13: child 5", x.power(0, 5, false), x.power(0, 5, true), NONE, NONE);
        fraction("13: child -1", x.power(0, -1, false), x.power(0, -1, true), NONE, NONE);
        PointedBench y = Calls.withCounty("man 0;child 1 1;");
        fraction("13: alone", y.power(0, 0, false), y.power(0, 0, true), 1, 1);
    }

    private static void ban() {
        PointedBench x = Calls.withCounty("man 0;man 0;child 1 1;child 20 0;child 1 1;has 0 2;has 1 3;has 1 4;likes 0 3 1;"
            + "likes 1 4 1;likes 2 4 1;fears 2 3;");
        // Without 3: CHILD 0 goes from 1 to 0, CHILD 2 from 0 to 1; without 4: CHILD 1 goes from 1 to 0.
        Calls.due("14: trait", x.ban(0, false), 3);
        Calls.due("14: many", x.ban(0, true), 2);
        PointedBench y = Calls.withCounty("man 0;child 1 1;");
        Calls.due("14: no change, trait", y.ban(0, false), 0);
        Calls.due("14: no change, many", y.ban(0, true), 0);
        PointedBench z = Calls.withCounty("man 0;child 1 1;has 0 5;fears 0 5;");
        Calls.due("14: from nobody, trait", z.ban(0, false), 5);
        Calls.due("14: from nobody, many", z.ban(0, true), 1);
    }

    private static void rivals() {
        PointedBench x = Calls.withCounty("man 0;man 0;child 1 1;has 0 0;has 1 1;likes 0 0 1;likes 0 1 2;likes 0 2 1;"
            + "likes 0 3 5;fears 0 4;");
        int[][] due = {
            // a, b, n, how much, first
            {0, 1, 0, -1, NONE}, {1, 0, 0, 1, NONE},
            // 0 ties by 2 and goes ahead as the least
            {0, 1, 1, 1, 1}, {1, 0, 1, 1, 0},
            // 0 shows 3: 6; 1 shows 3: 7
            {0, 1, 2, -1, 1}, {1, 0, 2, 1, 3},
            {0, 1, 3, 1, 1}, {1, 0, 3, 1, 0},
            // 1 and 3 make 8 for 0, 3 and 0 make 8 for 1: the least goes ahead
            {0, 1, 4, 1, 1}, {1, 0, 4, -1, 0}};
        for (int[] r : due) {
            Calls.due("15: rivals " + r[0] + r[1] + r[2], x.rivals(0, r[0], r[1], r[2], false), r[3]);
            Calls.due("15: first " + r[0] + r[1] + r[2], x.rivals(0, r[0], r[1], r[2], true), r[4]);
        }
        int[][] wrong = {{0, 0, 1}, {0, 2, 1}, {2, 0, 1}, {0, 1, 5}, {0, 1, -1}, {-1, 0, 1}, {0, -1, 0}};
        for (int[] r : wrong) {
            Calls.due("15: wrong", x.rivals(0, r[0], r[1], r[2], false), -9);
            Calls.due("15: wrong first", x.rivals(0, r[0], r[1], r[2], true), -9);
        }
        PointedBench y = Calls.withCounty("man 0;man 0;man 0;child 1 1;has 2 0;likes 0 0 9;has 0 0;has 0 1;has 0 2;"
            + "has 0 3;has 0 4;has 0 5;fears 0 5;");
        Calls.due("15: another one is picked", y.rivals(0, 0, 1, 1, false), 0);
        Calls.due("15: he has all to show", y.rivals(0, 0, 1, 1, true), 6);
        Calls.due("15: 1 ties with 2", y.rivals(0, 1, 0, 1, false), 1);
        PointedBench z = Calls.withCounty("man 0;man 0;child 1 1;has 0 0;has 1 0;fears 0 1;fears 0 2;fears 0 3;fears 0 4;"
            + "fears 0 5;");
        Calls.due("15: nothing is best to show", z.rivals(0, 0, 1, 1, true), 6);
        Calls.due("15: so he is picked", z.rivals(0, 0, 1, 1, false), 1);
    }

    private static void quiet() {
        PointedBench x = Calls.withCounty("man 5;man 0;man 9;man 3;child 1 30;child 20 1;child 1 0;");
        fraction("16: 5, first year", x.quiet(0, 0, 1, false, false), x.quiet(0, 0, 3, false, true), 1, 4);
        fraction("16: 5, 1 year", x.quiet(0, 0, 1, true, false), x.quiet(0, 0, 1, true, true), 1, 4);
        fraction("16: 5, 2 years", x.quiet(0, 0, 2, true, false), x.quiet(0, 0, 2, true, true), 9, 16);
        fraction("16: 5, 3 years", x.quiet(0, 0, 3, true, false), x.quiet(0, 0, 3, true, true), 49, 64);
        fraction("16: 0", x.quiet(0, 1, 3, true, false), x.quiet(0, 1, 3, true, true), 0, 1);
        fraction("16: 0, first", x.quiet(0, 1, 3, false, false), x.quiet(0, 1, 3, false, true), 1, 1);
        fraction("16: 9", x.quiet(0, 2, 1, false, false), x.quiet(0, 2, 1, false, true), 1, 100);
        fraction("16: 3", x.quiet(0, 3, 2, true, false), x.quiet(0, 3, 2, true, true), 51 * 51, 10000);
        fraction("16: n 0", x.quiet(0, 0, 0, false, false), x.quiet(0, 0, 0, true, true), NONE, NONE);
        fraction("16: n 4", x.quiet(0, 0, 4, false, false), x.quiet(0, 0, 4, true, true), NONE, NONE);
        fraction("16: man 4", x.quiet(0, 4, 1, false, false), x.quiet(0, -1, 1, true, true), NONE, NONE);
        PointedBench y = Calls.withCounty("man 3;man 9;" + "child 20 1;".repeat(6));
        fraction("16: six of 3", y.quiet(0, 0, 3, true, false), y.quiet(0, 0, 3, true, true),
            657L * 657 * 657 * 657 * 657 * 657, 1000000000000000000L);
        fraction("16: six of 9", y.quiet(0, 1, 3, true, false), y.quiet(0, 1, 3, true, true),
            999L * 999 * 999 * 999 * 999 * 999, 1000000000000000000L);
        fraction("16: six of 3, first", y.quiet(0, 0, 1, false, false), y.quiet(0, 0, 1, false, true), 117649, 1000000);
        PointedBench z = Calls.withCounty("man 0;child 1 0;");
        fraction("16: nobody in", z.quiet(0, 0, 1, true, false), z.quiet(0, 0, 1, true, true), 1, 1);
    }

    private static void fits() {
        PointedBench x = Calls.withLog("");
        Calls.due("18: all", x.fits(0, 0), 729);
        Calls.due("18: ask", x.fits(0, 1), 1);
        Calls.due("18: sure", x.fits(0, 2), NONE);
        Calls.due("18: first", x.fits(0, 10), 0);
        Calls.due("18: last", x.fits(0, 738), 728);
        Calls.due("18: beyond", x.fits(0, 739), -2);
        Calls.due("18: 8", x.fits(0, 8), -2);
        Calls.due("18: 9", x.fits(0, 9), -2);
        Calls.due("18: -1", x.fits(0, -1), -2);
        Calls.due("18: max", x.fits(0, MAX), -2);
        Calls.due("18: min", x.fits(0, MIN), -2);
        // 0 is LIKED by 2, 1 and 2 by 1, and so on down to 0 of the others.
        PointedBench y = Calls.withLog("prefers 1 2;prefers 2 8;not 4 2;prefers 4 8;not 16 8;not 32 0;");
        Calls.due("18: one", y.fits(0, 0), 1);
        Calls.due("18: the one", y.fits(0, 10), 2 * 243 + 81 + 27);
        int[] sure = {2, 1, 1, 0, 0, 0};
        for (int t = 0; t < 6; t++) {
            Calls.due("18: sure " + t, y.fits(0, 2 + t), sure[t]);
        }
        Calls.due("18: ask of one", y.fits(0, 1), 1);
        Calls.due("38: low of one", y.low(0, false), 4);
        Calls.due("38: high of one", y.low(0, true), 4);
        fraction("37: odds of one", y.odds(0, 1, 2, false), y.odds(0, 1, 2, true), 1, 1);
        PointedBench z = Calls.withLog("prefers 0 0;");
        Calls.due("18: none", z.fits(0, 0), 0);
        Calls.due("18: ask of none", z.fits(0, 1), NONE);
        Calls.due("18: sure of none", z.fits(0, 7), NONE);
        Calls.due("18: the 0th of none", z.fits(0, 10), -2);
        Calls.due("37: odds of none", z.odds(0, 1, 0, false), NONE);
        Calls.due("38: low of none", z.low(0, false), NONE);
        Calls.due("38: high of none", z.low(0, true), NONE);
    }

    private static void drawn() {
        PointedBench x = Calls.withCounty(COUNTY);
        for (int what = 10; what < 50; what++) {
            Calls.due("19: drawn no times, " + what, x.drawn(0, 5, 0, what), x.county(0, what + 10));
        }
        int[] atFirst = {0, 6, 0, 3, 0, 0, NONE};
        for (int what = 0; what < atFirst.length; what++) {
            Calls.due("19: drawn no times, " + what, x.drawn(0, 5, 0, what), atFirst[what]);
        }
        // From 0 on x is 12345: 0, show; then 3554416254: 54236 below 3 is 2; then 2802067423: 42756 below 6 is 0.
        Calls.due("19: show", x.drawn(0, 0, 1, 12), 9);
        // 1 becomes 1103527590: 16838, 8: year; 2 becomes 2207042835: 33676, 6: pick.
        Calls.due("19: year", x.drawn(0, 1, 1, 0), 1);
        Calls.due("19: pick", x.drawn(0, 2, 1, 2), 1);
        Calls.due("19: the gaoler", x.drawn(0, 2, 1, 1), 0);
        // 3 becomes 3310558080: 50515, 5: out, which can't be without a gaoler.
        Calls.due("19: out", x.drawn(0, 3, 1, 5), 0);
        Calls.due("19: 61 times", x.drawn(0, 77, 61, 0), NONE);
        Calls.due("19: -1 times", x.drawn(0, 77, -1, 0), NONE);
        Calls.due("19: 6", x.drawn(0, 77, 1, 6), NONE);
        Calls.due("19: 13", x.drawn(0, 77, 1, 13), NONE);
        Calls.due("19: 54", x.drawn(0, 77, 1, 54), NONE);
        Calls.due("19: 140", x.drawn(0, 77, 1, 140), NONE);
    }

    private static void duelsAndBest() {
        // A cycle: 0 PUTS 0 1 2, 1 PUTS 1 2 0, 2 PUTS 2 0 1.
        PointedBench x = Calls.withCounty("man 0;man 0;man 0;child 1 1;child 1 2;child 1 3;child 13 9;has 0 0;has 1 1;"
            + "has 2 2;likes 0 0 3;likes 0 1 2;likes 0 2 1;likes 1 1 3;likes 1 2 2;likes 1 0 1;likes 2 2 3;likes 2 0 2;"
            + "likes 2 1 1;likes 3 0 9;");
        Calls.due("20: 0, 1", x.duel(0, 0, 1), 2);
        Calls.due("20: 1, 0", x.duel(0, 1, 0), 1);
        Calls.due("20: 2, 0", x.duel(0, 2, 0), 2);
        Calls.due("20: 0, 0", x.duel(0, 0, 0), NONE);
        Calls.due("20: 0, 3", x.duel(0, 0, 3), NONE);
        Calls.due("20: -1, 0", x.duel(0, -1, 0), NONE);
        Calls.due("21: none", x.best(0, 0), NONE);
        Calls.due("21: sweetest", x.best(0, 1), 0);
        Calls.due("21: rarest", x.best(0, 2), 3);
        Calls.due("21: twins", x.best(0, 3), 0);
        Calls.due("21: guards", x.best(0, 4), 3);
        Calls.due("21: who guards", x.best(0, 5), 7);
        Calls.due("21: longest", x.best(0, 6), 9);
        Calls.due("21: score", x.best(0, 10), 3);
        int[] wrong = {7, 8, 9, 13, 16, -1, MIN, MAX};
        for (int what : wrong) {
            Calls.due("21: " + what, x.best(0, what), -2);
        }
        // FEARED ones are PUT below all; who is FEARED himself is PUT above nobody.
        PointedBench y = Calls.withCounty("man 0;man 0;man 0;child 1 1;child 1 1;has 0 0;has 1 1;has 2 1;likes 0 1 9;"
            + "fears 0 1;fears 1 0;fears 1 1;");
        Calls.due("20: above the feared one", y.duel(0, 0, 1), 1);
        Calls.due("20: feared, though liked", y.duel(0, 1, 0), 0);
        Calls.due("20: both feared", y.duel(0, 1, 2), 0);
        Calls.due("21: best", y.best(0, 0), 0);
        Calls.due("21: twins of two", y.best(0, 3), 1);
        Calls.due("21: guards, the least", y.best(0, 5), 3);
        Calls.due("21: one alone", Calls.withCounty("man 0;").best(0, 0), 0);
        Calls.due("21: longest of none", Calls.withCounty("man 0;").best(0, 6), 0);
    }

    /** Counts go as far as six. */
    private static void sixOfEach() {
        String men = "man 0;".repeat(6);
        PointedBench x = Calls.withCounty(men + "has 0 0;has 1 1;has 2 2;has 3 3;has 4 4;has 5 5;");
        Calls.due("21: six guards", x.best(0, 4), 6);
        Calls.due("21: all guard", x.best(0, 5), 63);
        Calls.due("21: no twins", x.best(0, 3), 0);
        StringBuilder all = new StringBuilder(men);
        for (int man = 0; man < 6; man++) {
            for (int trait = 0; trait < 6; trait++) {
                if (man != 4 || trait != 3) {
                    all.append("has ").append(man).append(' ').append(trait).append(';');
                }
            }
        }
        PointedBench y = Calls.withCounty(all.toString());
        Calls.due("21: rarest though five have it", y.best(0, 2), 3);
        Calls.due("21: ten couples", y.best(0, 3), 10);
        Calls.due("21: one guards", y.best(0, 5), 1);
        PointedBench z = Calls.withCounty("man 0;man 0;" + "child 1 1;".repeat(6)
            + "has 1 0;likes 0 0 1;likes 1 0 1;likes 2 0 1;likes 3 0 1;likes 4 0 1;likes 5 0 1;");
        Calls.due("29: nobody POINTS to 0", z.runoff(0, 0), 0);
        Calls.due("29: six POINT to the one that stays", z.runoff(0, 1), 1);
        Calls.due("24: six", z.gang(0, false), 6);
        Calls.due("22: all benches but nobody's", z.benches(0, 1), 63);
        PointedBench feared = Calls.withCounty(men + "has 0 0;has 1 0;has 2 0;has 3 0;has 4 0;has 5 0;child 1 1;fears 0 0;");
        Calls.due("24: nobody is no MAN", feared.gang(0, false), 0);
        Calls.due("24: of nobody", feared.gang(0, true), 0);
        Calls.due("10: nobody of six", feared.picked(0, 63), 6);
    }

    private static void trade() {
        PointedBench x = Calls.withCounty("man 0;man 0;man 0;child 1 1;has 0 0;has 0 5;has 1 0;has 1 1;has 1 2;has 1 3;"
            + "likes 0 1 2;likes 0 2 4;likes 0 3 9;likes 0 5 1;fears 0 3;has 2 4;likes 0 4 3;");
        // 0 gives 5; he takes 2 (4): ahead of 2's 3; by 1 (2) he is behind, 3 is FEARED.
        Calls.due("23: 0, 1", x.trade(0, 0, 1), 52);
        // 1 gives 1, 2 or 3 for 5: having still 3 he is FEARED, but by giving 3 he has 1, 2, 5: 7.
        Calls.due("23: 1, 0", x.trade(0, 1, 0), 35);
        // 2 gives 4 for 0: 0; for 5: 1; 0 then has more.
        Calls.due("23: 2, 0", x.trade(0, 2, 0), NONE);
        Calls.due("23: 0, 0", x.trade(0, 0, 0), NONE);
        Calls.due("23: 0, 3", x.trade(0, 0, 3), NONE);
        Calls.due("23: -1, 0", x.trade(0, -1, 0), NONE);
        Calls.due("23: county 1", x.trade(1, 0, 1), NONE);
    }

    private static void gangAndKindest() {
        PointedBench x = Calls.withCounty("man 3;man 7;man 3;man 7;child 20 0;child 1 1;child 20 0;child 1 1;child 1 1;"
            + "has 1 0;has 2 1;likes 0 1 1;likes 2 1 1;likes 1 0 1;likes 3 0 1;");
        Calls.due("24: many", x.gang(0, false), 2);
        Calls.due("24: which", x.gang(0, true), 10);
        int[] order = {1, 3, 0, 2, NONE};
        for (int k = 0; k < 5; k++) {
            Calls.due("25: kindest " + k, x.kindest(0, k), order[k]);
        }
        Calls.due("25: kindest -1", x.kindest(0, -1), NONE);
        PointedBench y = Calls.withCounty("man 0;child 1 1;has 0 0;fears 0 0;");
        Calls.due("24: none points", y.gang(0, false), 0);
        Calls.due("24: none points, which", y.gang(0, true), 0);
    }

    private static void freedLikedUnlike() {
        PointedBench x = Calls.withCounty("man 0;man 2;man 3;child 1 20;child 1 21;child 1 0;child 20 1;has 1 0;has 1 3;"
            + "likes 0 0 9;likes 0 3 1;likes 1 3 4;likes 3 0 2;likes 3 1 9;fears 1 3;");
        Calls.due("26: by 0", x.freed(0, 0), 0);
        Calls.due("26: by 2", x.freed(0, 1), 9);
        Calls.due("26: by 3", x.freed(0, 2), 11);
        Calls.due("26: man 3", x.freed(0, 3), NONE);
        fraction("27: 1", x.liked(0, 1, false), x.liked(0, 1, true), 4, 1);
        fraction("27: 0", x.liked(0, 0, false), x.liked(0, 0, true), 0, 1);
        fraction("27: 3", x.liked(0, 3, false), x.liked(0, 3, true), NONE, NONE);
        Calls.due("28: 0, 1", x.unlike(0, 0, 1), 12);
        Calls.due("28: 3, 0", x.unlike(0, 3, 0), 17);
        Calls.due("28: 0, 0", x.unlike(0, 0, 0), 0);
        Calls.due("28: 0, 4", x.unlike(0, 0, 4), NONE);
        Calls.due("28: -1, 0", x.unlike(0, -1, 0), NONE);
        PointedBench y = Calls.withCounty("man 1;has 0 0;");
        fraction("27: no children", y.liked(0, 0, false), y.liked(0, 0, true), NONE, NONE);
        PointedBench z = Calls.withCounty("man 1;has 0 0;child 1 1;child 1 1;child 1 1;likes 0 0 9;likes 1 0 1;");
        fraction("27: ten thirds", z.liked(0, 0, false), z.liked(0, 0, true), 10, 3);
    }

    private static void runoffAndAgenda() {
        // 0 and 1 POINT to 0, 2 and 3 to 1 (then 2), 4 to 2 (then 1); to 3 nobody does.
        PointedBench x = Calls.withCounty("man 0;man 0;man 0;man 0;child 1 1;child 1 1;child 1 1;child 1 1;child 1 1;"
            + "has 0 0;has 1 1;has 2 2;likes 0 0 1;likes 1 0 1;likes 2 1 2;likes 2 2 1;likes 3 1 2;likes 3 2 1;"
            + "likes 4 2 2;likes 4 1 1;");
        int[] gone = {3, 2, 0, 1, NONE};
        for (int k = 0; k < 5; k++) {
            Calls.due("29: runoff " + k, x.runoff(0, k), gone[k]);
        }
        Calls.due("29: runoff -1", x.runoff(0, -1), NONE);
        // 1 is ahead of 0 (3 to 2), of 2 (2 to 1) and of 3 (3 to 0): nobody else ever stays.
        for (int k = 0; k < 4; k++) {
            Calls.due("30: agenda of 1 at " + k, x.agenda(0, 1, k), k);
            Calls.due("30: agenda of 0 at " + k, x.agenda(0, 0, k), NONE);
        }
        Calls.due("30: agenda at 4", x.agenda(0, 1, 4), NONE);
        Calls.due("30: agenda at -1", x.agenda(0, 1, -1), NONE);
        Calls.due("30: agenda of 4", x.agenda(0, 4, 0), NONE);
        // The cycle: 0 beats 1, 1 beats 2, 2 beats 0.
        PointedBench y = Calls.withCounty("man 0;man 0;man 0;child 1 1;child 1 2;child 1 3;has 0 0;has 1 1;has 2 2;"
            + "likes 0 0 3;likes 0 1 2;likes 0 2 1;likes 1 1 3;likes 1 2 2;likes 1 0 1;likes 2 2 3;likes 2 0 2;likes 2 1 1;");
        int[][] rows = {{1, 2, 0}, {0, 2, 1}, {0, 1, 2}};
        for (int m = 0; m < 3; m++) {
            for (int k = 0; k < 3; k++) {
                Calls.due("30: cycle, " + m + " at " + k, y.agenda(0, m, k), rows[m][k]);
            }
        }
        // As many of both: the one ahead stays.
        PointedBench z = Calls.withCounty("man 0;man 0;");
        Calls.due("30: ahead, 0", z.agenda(0, 0, 0), 0);
        Calls.due("30: ahead, 1", z.agenda(0, 1, 0), 1);
        Calls.due("30: ahead, 1 then", z.agenda(0, 1, 1), 0);
        Calls.due("30: alone", Calls.withCounty("man 0;").agenda(0, 0, 0), 0);
        Calls.due("29: alone", Calls.withCounty("man 0;").runoff(0, 0), 0);
    }

    private static void lies() {
        // 0 POINTS to 2 (then 1, then 0), 1 and 2 to 0, 3 and 4 to 1: 0 is PICKED; by a lie 1 would be.
        PointedBench x = Calls.withCounty("man 0;man 0;man 0;child 1 1;child 1 1;child 1 1;child 1 1;child 1 1;child 13 1;"
            + "has 0 0;has 1 1;has 2 2;likes 0 2 2;likes 0 1 1;likes 1 0 1;likes 2 0 1;likes 3 1 1;likes 4 1 1;");
        Calls.due("31: 0 lies", x.lies(0, 0), 1);
        Calls.due("31: 1 has what it wants", x.lies(0, 1), NONE);
        Calls.due("31: 3 can't", x.lies(0, 3), NONE);
        Calls.due("31: no vote", x.lies(0, 5), NONE);
        Calls.due("31: child 6", x.lies(0, 6), NONE);
        Calls.due("31: child -1", x.lies(0, -1), NONE);
        PointedBench y = Calls.withCounty("man 0;child 1 1;has 0 0;fears 0 0;");
        Calls.due("31: nobody is now", y.lies(0, 0), NONE);
    }

    private static void bun() {
        PointedBench x = Calls.withCounty("man 0;man 0;man 0;man 0;child 20 0;child 1 1;has 0 0;has 1 1;has 1 2;has 2 0;"
            + "has 2 3;has 3 4;likes 0 0 9;likes 0 1 2;fears 0 4;");
        Calls.due("32: it does", x.bun(0, 0, 0, false), 0);
        Calls.due("32: it does, which", x.bun(0, 0, 0, true), 0);
        Calls.due("32: 1, one above 9", x.bun(0, 0, 1, false), 8);
        Calls.due("32: 1, which", x.bun(0, 0, 1, true), 1);
        Calls.due("32: 2, ties are 0's", x.bun(0, 0, 2, false), 1);
        Calls.due("32: 2, which", x.bun(0, 0, 2, true), 3);
        Calls.due("32: 3 is feared", x.bun(0, 0, 3, false), NONE);
        Calls.due("32: 3 is feared, which", x.bun(0, 0, 3, true), NONE);
        Calls.due("32: of child 1", x.bun(0, 1, 3, false), 1);
        Calls.due("32: of child 1, which", x.bun(0, 1, 3, true), 4);
        Calls.due("32: child 2", x.bun(0, 2, 0, false), NONE);
        Calls.due("32: man 4", x.bun(0, 0, 4, false), NONE);
        // He who HAS no TRAIT is not LIKED more; beyond 9 for him who has one.
        PointedBench y = Calls.withCounty("man 0;man 0;man 0;child 1 1;has 0 0;has 0 1;has 2 5;likes 0 0 9;likes 0 1 9;");
        Calls.due("32: without traits", y.bun(0, 0, 1, false), NONE);
        Calls.due("32: without traits, which", y.bun(0, 0, 1, true), NONE);
        Calls.due("32: beyond 9", y.bun(0, 0, 2, false), 19);
        // The least of the others loses a tie.
        PointedBench z = Calls.withCounty("man 0;man 0;child 1 1;has 0 0;has 1 1;likes 0 1 4;");
        Calls.due("32: a tie is enough", z.bun(0, 0, 0, false), 4);
    }

    private static void wings() {
        // 0 and 1 FEAR 0, 1 and 2 FEAR 1, 3 is out, 4 FEARS nothing, 5 FEARS 0 and 1.
        PointedBench x = Calls.withCounty("child 1 1;child 1 1;child 20 1;child 1 0;child 1 1;child 1 1;fears 0 0;fears 1 0;"
            + "fears 1 1;fears 2 1;fears 3 0;fears 5 0;fears 5 1;");
        Calls.due("33: three", x.wings(0, NONE), 3);
        int[] in = {0, 1, 0, 6, 0, 2};
        for (int c = 0; c < 6; c++) {
            Calls.due("33: of " + c, x.wings(0, c), in[c]);
        }
        Calls.due("33: of 6", x.wings(0, 6), NONE);
        Calls.due("33: of -2", x.wings(0, -2), NONE);
        // By taking the first wing that does, 0 | 1 | 0 would put 3 into a third one.
        PointedBench y = Calls.withCounty("child 1 1;child 1 1;child 1 1;child 1 1;fears 0 0;fears 3 0;fears 1 1;fears 2 1;"
            + "fears 1 2;fears 3 2;");
        Calls.due("33: two", y.wings(0, NONE), 2);
        int[] first = {0, 0, 1, 1};
        for (int c = 0; c < 4; c++) {
            Calls.due("33: of " + c + " of four", y.wings(0, c), first[c]);
        }
        PointedBench z = Calls.withCounty("child 1 0;child 1 0;");
        Calls.due("33: none", z.wings(0, NONE), 0);
        Calls.due("33: not in", z.wings(0, 1), 6);
        PointedBench six = Calls.withCounty("child 1 1;".repeat(6) + "fears 0 0;fears 1 0;fears 2 0;fears 3 0;fears 4 0;"
            + "fears 5 0;");
        Calls.due("33: six", six.wings(0, NONE), 6);
        for (int c = 0; c < 6; c++) {
            Calls.due("33: of six, " + c, six.wings(0, c), c);
        }
    }

    private static void later() {
        PointedBench x = Calls.withCounty("man 0;man 0;child 10 30;child 12 30;child 0 2;child 0 30;has 1 0;likes 3 0 1;"
            + "likes 0 0 1;likes 2 0 1;");
        int[] votes = {15, 13, 9, 8, 8};
        int[] who = {1, 1, 1, 1, 1};
        for (int n = 0; n < 5; n++) {
            Calls.due("34: later " + n, x.later(0, n, false), votes[n]);
            Calls.due("34: who " + n, x.later(0, n, true), who[n]);
        }
        Calls.due("34: at 12", x.later(0, 12, false), 8);
        Calls.due("34: at 13", x.later(0, 13, false), 0);
        Calls.due("34: nobody at 30", x.later(0, 30, true), 6);
        Calls.due("34: 31", x.later(0, 31, false), NONE);
        Calls.due("34: -1", x.later(0, -1, true), NONE);
        Calls.due("34: as told then", x.county(0, 30), 10);
    }

    private static void after() {
        PointedBench x = Calls.withCounty("man 0;man 0;man 0;child 1 30;child 1 30;has 1 1;has 2 2;likes 0 1 1;"
            + "likes 1 2 1;fears 1 1;");
        Calls.due("a year", Calls.read(x, 1, NONE, "year;pick;year;year;scare 0 1;pick;year;year;show 1 1;show 1 0;"
            + "hide 1 0;show 1 0;scare 0 1;scare 0 0;scare 0 2;hide 0 0;show 0 5;scare 0 5;pick;scare 1 5;scare 1 2;"
            + "show 0 2;show 2 5;show 1 5;pick;pick;year;show 3 3;pick;"), 0);
        Calls.due("8: till", x.till(0, 0), 27);
        // 1 first, then 0 and 2 tie: 0; then CHILD 0 FEARS all but so does not CHILD 1: 2; then nobody, twice.
        Calls.due("36: first", x.after(0, 0, 0), 1);
        Calls.due("36: changes", x.after(0, 0, 1), 4);
        Calls.due("36: reign", x.after(0, 0, 2), 0);
        Calls.due("36: fickle", x.after(0, 0, 3), 0);
        Calls.due("36: shown", x.after(0, 0, 4), 6);
        Calls.due("36: scared", x.after(0, 0, 5), 6);
        Calls.due("36: year 1", x.after(0, 1, 0), -2);
        Calls.due("36: county 1", x.after(1, 0, 0), -2);
    }

    private static void oddsAndLow() {
        PointedBench x = Calls.withLog("");
        fraction("37: one to one", x.odds(0, 1, 2, false), x.odds(0, 1, 2, true), 1, 3);
        fraction("37: one to none", x.odds(0, 1, 0, false), x.odds(0, 1, 0, true), 2, 3);
        fraction("37: none to all", x.odds(0, 0, 63, false), x.odds(0, 0, 63, true), 0, 1);
        fraction("37: all to none", x.odds(0, 63, 0, false), x.odds(0, 63, 0, true), 728, 729);
        int[][] wrong = {{64, 0}, {0, 64}, {-1, 0}, {0, -1}, {MIN, MAX}};
        for (int[] w : wrong) {
            fraction("37: wrong", x.odds(0, w[0], w[1], false), x.odds(0, w[0], w[1], true), NONE, NONE);
        }
        Calls.due("38: low", x.low(0, false), 0);
        Calls.due("38: high", x.low(0, true), 12);
        PointedBench y = Calls.withLog("prefers 1 6;not 56 0;");
        // 0 is LIKED above 1 and 2 together: 1 with 0, or 2 with 0 or 1 (two ways).
        Calls.due("18: four", y.fits(0, 0), 4);
        Calls.due("38: low of four", y.low(0, false), 1);
        Calls.due("38: high of four", y.low(0, true), 3);
        fraction("37: of four", y.odds(0, 2, 4, false), y.odds(0, 2, 4, true), 1, 4);
    }

    private static void images() {
        PointedBench x = Calls.withCounty("man 1;");
        Calls.due("a year", Calls.read(x, 1, NONE, "pick;"), 0);
        Calls.due("a log", Calls.read(x, 2, NONE, "not 1 2;"), 0);
        Calls.due("a fault", Calls.read(x, 2, NONE, "not 1 64;"), NONE);
        Calls.feed(x, "man 2;", 0);
        Calls.due("40: image", x.image(1), true);
        Calls.due("40: image 3", x.image(3), false);
        Calls.due("40: image -1", x.image(-1), false);
        Calls.due("41: again 0", x.again(0), false);
        Calls.due("41: again 2", x.again(2), false);
        Calls.due("41: again 3", x.again(3), false);
        Calls.due("41: again -1", x.again(-1), false);
        Calls.due("another county", x.text(0, NONE), 1);
        Calls.due("another for 0", Calls.read(x, 0, 0, "man 3;child 1 1;"), 0);
        Calls.due("another year", Calls.read(x, 1, 0, "year;year;"), 0);
        Calls.due("another log", Calls.read(x, 2, NONE, ""), 1);
        Calls.due("another for log 0", Calls.read(x, 2, 0, "prefers 3 4;not 5 6;"), 0);
        Calls.due("40: a second image", x.image(2), true);
        Calls.due("41: again 1", x.again(1), true);
        int[] told = {x.count(0), x.count(1), x.count(2), x.county(0, 10), x.county(0, 1), x.deed(0, NONE, 0),
            x.deed(0, 0, 0), x.fact(0, NONE, 0), x.fact(0, 0, 1), x.fault(0), x.fault(1), x.county(1, 0), x.end(7),
            x.end(6)};
        int[] due = {1, 1, 1, 1, 0, 1, 5, 1, 1, 2, 6, NONE, NONE, 6};
        for (int i = 0; i < told.length; i++) {
            Calls.due("41: told " + i, told[i], due[i]);
        }
        Calls.due("41: the tape as it was", x.text(0, NONE), 1);
        Calls.due("41: its man", x.county(1, 10), 2);
        Calls.due("41: the image is as it was", x.again(1), true);
        Calls.due("41: one county", x.count(0), 1);
        Calls.due("41: the second image", x.again(2), true);
        int[] then = {x.count(0), x.count(1), x.count(2), x.county(0, 10), x.county(0, 1), x.deed(0, NONE, 0),
            x.fact(0, NONE, 0), x.fact(1, NONE, 0), x.fault(0), x.fault(1), x.county(1, 10), x.end(1)};
        int[] dueThen = {2, 1, 2, 3, 1, 2, 2, 0, 0, NONE, 2, NONE};
        for (int i = 0; i < then.length; i++) {
            Calls.due("41: told then " + i, then[i], dueThen[i]);
        }
        Calls.due("40: over an image", x.image(1), true);
        Calls.due("41: it", x.again(1), true);
        Calls.due("41: as now", x.count(0), 2);
        Calls.due("40: image 0", x.image(0), true);
        Calls.due("one for 0", Calls.read(x, 0, 0, "man 8;"), 0);
        Calls.due("41: again 0", x.again(0), true);
        Calls.due("41: 0 as it was", x.county(0, 10), 3);
    }

    private static void emptyCounty() {
        PointedBench x = Calls.withCounty("");
        Calls.due("a year", Calls.read(x, 1, NONE, "pick;year;pick;show 0 0;"), 0);
        Calls.due("8: till", x.till(0, 0), 3);
        Calls.due("9: picks of nobody", x.state(0, 0, 3, 2), 2);
        Calls.due("9: gaoler", x.state(0, 0, 3, 1), 6);
        Calls.due("9: year", x.state(0, 0, 3, 0), 1);
        Calls.due("10: picked", x.picked(0, 63), 6);
        Calls.due("14: ban", x.ban(0, false), 0);
        Calls.due("14: many", x.ban(0, true), 0);
        Calls.due("21: best", x.best(0, 0), NONE);
        int[] due = {0, 0, 0, 0, 0, 0};
        for (int what = 1; what < 7; what++) {
            Calls.due("21: best " + what, x.best(0, what), due[what - 1]);
        }
        Calls.due("21: score", x.best(0, 10), -2);
        Calls.due("24: gang", x.gang(0, false), 0);
        Calls.due("24: which", x.gang(0, true), 0);
        Calls.due("25: kindest", x.kindest(0, 0), NONE);
        Calls.due("29: runoff", x.runoff(0, 0), NONE);
        Calls.due("33: wings", x.wings(0, NONE), 0);
        Calls.due("33: of 0", x.wings(0, 0), NONE);
        Calls.due("34: later", x.later(0, 0, false), 0);
        Calls.due("34: who", x.later(0, 0, true), 6);
        Calls.due("19: drawn", x.drawn(0, 1, 60, 1), 6);
        Calls.due("36: fickle", x.after(0, 0, 3), NONE);
    }

    /** Without any COUNTY, YEAR, LOG, and by numbers there never are. */
    private static void noneSuch() {
        PointedBench[] both = {new PointedBench(), Calls.withCounty(COUNTY)};
        int[] wrong = {1, 2, -1, -2, MIN, MAX};
        for (PointedBench x : both) {
            for (int k : wrong) {
                Calls.due("8: till", x.till(k, 0), NONE);
                Calls.due("8: till, no year", x.till(0, k), NONE);
                Calls.due("9: state", x.state(k, 0, 0, 0), NONE);
                Calls.due("9: state, no year", x.state(0, k, 0, 0), NONE);
                Calls.due("6: county", x.county(k, 0), NONE);
                Calls.due("10: picked", x.picked(k, 0), NONE);
                Calls.due("11: show", x.show(k, 0, false), NONE);
                Calls.due("12: bench", x.bench(k, 0, false), NONE);
                Calls.due("13: power", x.power(k, 0, true), NONE);
                Calls.due("14: ban", x.ban(k, false), NONE);
                Calls.due("15: rivals", x.rivals(k, 0, 1, 0, true), -9);
                Calls.due("16: quiet", x.quiet(k, 0, 1, true, false), NONE);
                Calls.due("17: fact", x.fact(k, NONE, 0), -2);
                Calls.due("18: fits", x.fits(k, 0), -2);
                Calls.due("19: drawn", x.drawn(k, 0, 0, 0), NONE);
                Calls.due("20: duel", x.duel(k, 0, 1), NONE);
                Calls.due("21: best", x.best(k, 0), -2);
                Calls.due("22: benches", x.benches(k, 0), NONE);
                Calls.due("23: trade", x.trade(k, 0, 1), NONE);
                Calls.due("24: gang", x.gang(k, false), NONE);
                Calls.due("25: kindest", x.kindest(k, 0), NONE);
                Calls.due("26: freed", x.freed(k, 0), NONE);
                Calls.due("27: liked", x.liked(k, 0, true), NONE);
                Calls.due("28: unlike", x.unlike(k, 0, 1), NONE);
                Calls.due("29: runoff", x.runoff(k, 0), NONE);
                Calls.due("30: agenda", x.agenda(k, 0, 0), NONE);
                Calls.due("31: lies", x.lies(k, 0), NONE);
                Calls.due("32: bun", x.bun(k, 0, 0, false), NONE);
                Calls.due("33: wings", x.wings(k, NONE), NONE);
                Calls.due("34: later", x.later(k, 0, false), NONE);
                Calls.due("35: fewest", x.fewest(k, 0, false), NONE);
                Calls.due("36: after", x.after(k, 0, 0), -2);
                Calls.due("37: odds", x.odds(k, 0, 0, true), NONE);
                Calls.due("38: low", x.low(k, false), NONE);
            }
        }
        Calls.due("17: no log 0", both[1].fact(0, NONE, 0), -2);
        Calls.due("18: no log 0", both[1].fits(0, 0), -2);
        Calls.due("37: no log 0", both[1].odds(0, 1, 0, true), NONE);
        Calls.due("38: no log 0", both[1].low(0, true), NONE);
    }
}
