/** Boundary cases of VOTES and benches, of YEARS and of those DRAWN: Term 2, parts of 4 and 6, Promises 8 to 10, 19, 36. */
final class YearEdges {
    private static final int NONE = PointedBench.NONE;
    private static final int MIN = Integer.MIN_VALUE;
    private static final int MAX = Integer.MAX_VALUE;

    private YearEdges() {
    }

    static void tell() {
        votes();
        beginAndTraits();
        picksAndOuts();
        yearsAndEnd();
        till();
        state();
        picked();
        afterGaolers();
        afterOthers();
        after();
        lots();
        drawnDeeds();
        drawn();
    }

    /** What a COUNTY as told says by state(). */
    private static int atFirst(String county, int what) {
        return Calls.withYear(county, "").state(0, 0, 0, what);
    }

    /** What it says behind all DEEDS of a YEAR, each of which can be. */
    private static int behind(String county, String year, int what) {
        PointedBench x = Calls.withYear(county, year);
        int deeds = x.deed(0, NONE, 0);
        Calls.due("till of " + year + " in " + county, x.till(0, 0), deeds);
        return x.state(0, 0, deeds, what);
    }

    private static void till(String county, String year, int due) {
        Calls.due("till of " + year + " in " + county, Calls.withYear(county, year).till(0, 0), due);
    }

    private static void votes() {
        Edges.ofTerm(2);
        Edges.edge("A CHILD has a VOTE, if its AGE is 12 or less and the TERM of its father above 0.", () -> {
            Calls.due("VOTES", atFirst("child 12 1;child 13 1;child 12 0;child 0 30;child 20 30;child 0 0;", 3), 9);
            Calls.due("none", atFirst("child 13 30;child 12 0;", 3), 0);
            Calls.due("no CHILDREN", atFirst("man 1;", 3), 0);
        });
        Edges.edge("It POINTS to the MAN whose TRAITS it LIKES most together, of several to the least,", () -> {
            String three = "man 0;man 0;man 0;child 1 1;has 1 1;has 1 2;has 2 3;";
            Calls.due("all alike", atFirst(three, 50), 0);
            Calls.due("two alike", atFirst(three + "likes 0 1 1;likes 0 2 2;likes 0 3 3;", 50), 1);
            Calls.due("most alone", atFirst(three + "likes 0 1 1;likes 0 2 2;likes 0 3 4;", 50), 2);
        });
        Edges.edge("but to nobody who HAS a TRAIT it FEARS (to nobody, if there is no other).", () -> {
            String two = "man 0;man 0;child 1 1;has 0 0;has 0 1;has 1 5;likes 0 0 9;";
            Calls.due("FEARS nobody", atFirst(two, 50), 0);
            Calls.due("FEARS the one it LIKES", atFirst(two + "fears 0 1;", 50), 1);
            Calls.due("FEARS both", atFirst(two + "fears 0 1;fears 0 5;", 50), 6);
            Calls.due("FEARS what nobody HAS", atFirst(two + "fears 0 2;", 50), 0);
            Calls.due("no MEN", atFirst("child 1 1;", 50), 6);
        });
        Edges.edge("A bench is some CHILDREN: those of them that have a VOTE POINT;", () -> {
            PointedBench x = Calls.withCounty("man 0;man 0;child 13 1;child 1 0;child 1 1;has 1 0;likes 0 0 1;likes 1 0 1;");
            Calls.due("nobody", x.picked(0, 0), 6);
            Calls.due("one too old, one whose father is out", x.picked(0, 3), 6);
            Calls.due("with one that has a VOTE", x.picked(0, 7), 0);
        });
        Edges.edge("PICKED is the MAN to whom most of these POINT, of several the least (nobody, if none POINTS to any).", () -> {
            PointedBench x = Calls.withCounty("man 0;man 0;man 0;child 1 1;child 1 1;child 1 1;child 1 1;has 0 0;has 1 1;"
                + "has 2 2;likes 0 2 1;likes 1 1 1;likes 2 2 1;fears 3 0;fears 3 1;fears 3 2;");
            Calls.due("two to one", x.picked(0, 7), 2);
            Calls.due("one to one", x.picked(0, 3), 1);
            Calls.due("one to none", x.picked(0, 9), 2);
            Calls.due("none", x.picked(0, 8), 6);
            Calls.due("no MEN", Calls.withCounty("child 1 1;").picked(0, 1), 6);
        });
    }

    private static void beginAndTraits() {
        Edges.edge("A YEAR of a COUNTY begins in year 0, nobody being the gaoler.", () -> {
            String county = "man 9;child 1 1;";
            Calls.due("the year", atFirst(county, 0), 0);
            Calls.due("the gaoler", atFirst(county, 1), 6);
            // A second one begins as the first one did.
            PointedBench x = Calls.withYear(county, "pick;out 0;year;");
            Calls.due("another YEAR", Calls.read(x, 1, NONE, "year;"), 1);
            Calls.due("the first goes by", x.state(0, 0, 3, 0), 1);
            Calls.due("the gaoler of the other", x.state(0, 1, 0, 1), 6);
            Calls.due("its year", x.state(0, 1, 0, 0), 0);
            Calls.due("its VOTES", x.state(0, 1, 0, 3), 1);
            Calls.due("its picks", x.state(0, 1, 0, 2), 0);
            Calls.due("who got out in it", x.state(0, 1, 0, 5), 0);
        });
        Edges.edge("show, hide: a MAN HAS a TRAIT from then on, or HAS it not.", () -> {
            String county = "man 0;man 0;has 0 5;";
            Calls.due("a further one", behind(county, "show 0 0;", 10), 33);
            Calls.due("one he HAS", behind(county, "show 0 5;", 10), 32);
            Calls.due("no more", behind(county, "hide 0 5;", 10), 0);
            Calls.due("one he HAS not", behind(county, "hide 0 4;", 10), 32);
            Calls.due("the other MAN", behind(county, "show 0 1;hide 0 5;show 1 2;hide 1 3;", 11), 4);
        });
        Edges.edge("scare: a CHILD FEARS a TRAIT from then on.", () -> {
            String county = "child 1 1;child 1 1;fears 0 5;";
            Calls.due("a further one", behind(county, "scare 0 0;year;", 40), 33);
            Calls.due("one it FEARS", behind(county, "scare 0 5;", 40), 32);
            Calls.due("the other CHILD", behind(county, "scare 0 0;scare 1 3;", 41), 8);
        });
        Edges.edge("treat: a CHILD LIKES a TRAIT so much more, 9 at most.", () -> {
            String county = "child 1 1;child 1 1;likes 0 5 6;";
            Calls.due("to 8", behind(county, "treat 0 5 2;", 105), 8);
            Calls.due("to 9", behind(county, "treat 0 5 3;", 105), 9);
            Calls.due("beyond 9", behind(county, "treat 0 5 4;", 105), 9);
            Calls.due("far beyond 9", behind(county, "treat 0 5 9;treat 0 5 9;", 105), 9);
            Calls.due("from 0", behind(county, "treat 1 0 9;", 110), 9);
        });
    }

    private static void picksAndOuts() {
        Edges.edge("he is the gaoler (nobody, if nobody is).", () -> {
            String county = "man 0;man 0;child 1 1;has 0 0;has 1 1;";
            Calls.due("the first", behind(county, "pick;", 1), 0);
            Calls.due("he stays till the next pick", behind(county, "pick;scare 0 0;", 1), 0);
            Calls.due("the other", behind(county, "pick;scare 0 0;pick;", 1), 1);
            Calls.due("nobody then", behind(county, "pick;scare 0 0;scare 0 1;pick;", 1), 6);
            Calls.due("without a VOTE", behind(county, "pick;year;pick;", 1), 6);
            Calls.due("without MEN", behind("child 1 1;", "pick;", 1), 6);
        });
        Edges.edge("out: the father of a CHILD gets out, his TERM is 0: if it is above 0,", () -> {
            till("man 9;child 1 1;child 1 0;", "pick;out 1;", 1);
            till("man 9;child 1 1;child 1 1;", "pick;out 1;out 1;", 2);
            till("man 9;child 1 1;child 1 1;", "pick;year;out 1;", 2);
            till("man 9;child 1 1;child 1 2;", "pick;year;out 1;", 3);
            Calls.due("it is 0 then", behind("man 9;child 1 30;", "pick;out 0;", 30), 0);
        });
        Edges.edge("and there is a gaoler,", () -> {
            till("man 9;child 1 1;", "out 0;", 0);
            till("man 9;child 1 1;", "pick;out 0;", 2);
            till("man 9;child 1 1;has 0 0;", "pick;scare 0 0;pick;out 0;", 3);
            till("man 9;child 1 1;has 0 0;", "pick;scare 0 0;out 0;", 3);
        });
        Edges.edge("and 10 times his KINDNESS is the TERM or more.", () -> {
            till("man 3;child 1 30;", "pick;out 0;", 2);
            till("man 2;child 1 30;", "pick;out 0;", 1);
            till("man 1;child 1 10;", "pick;out 0;", 2);
            till("man 1;child 1 11;", "pick;out 0;", 1);
            till("man 1;child 1 11;", "pick;year;out 0;", 3);
            till("man 0;child 1 1;", "pick;out 0;", 1);
            // That of the gaoler, not of another one.
            till("man 9;man 0;child 1 1;has 1 0;likes 0 0 1;", "pick;out 0;", 1);
        });
    }

    private static void yearsAndEnd() {
        String years = "year;".repeat(40);
        Edges.edge("year (up to 99): each CHILD is a year older, 99 at most,", () -> {
            // 40 DEEDS are the most, so the year never comes to 99, nor an AGE.
            Calls.due("the year", behind("child 20 1;", years, 0), 40);
            Calls.due("the AGE", behind("child 20 1;child 0 0;", years, 20), 60);
            Calls.due("of the other", behind("child 20 1;child 0 0;", years, 21), 40);
            Calls.due("one year", behind("child 12 9;", "year;", 20), 13);
            Calls.due("no VOTE then", behind("child 12 9;", "year;", 3), 0);
            Calls.due("a VOTE at 12", behind("child 11 9;", "year;", 3), 1);
        });
        Edges.edge("each TERM above 0 is 1 less;", () -> {
            String county = "child 1 0;child 1 1;child 1 2;child 1 30;";
            int[] once = {0, 0, 1, 29};
            int[] atLast = {0, 0, 0, 0};
            for (int child = 0; child < 4; child++) {
                Calls.due("a year", behind(county, "year;", 30 + child), once[child]);
                Calls.due("40 years", behind(county, years, 30 + child), atLast[child]);
            }
            Calls.due("VOTES", behind(county, "year;", 3), 12);
            Calls.due("the last of six", behind("child 1 1;".repeat(5) + "child 1 9;", "year;", 35), 8);
        });
        Edges.edge("A DEED can't be, if there is no such MAN, CHILD, or it is not as said.", () -> {
            String county = "man 9;child 1 1;";
            for (String deed : new String[] {"show 1 0;", "hide 1 0;", "scare 1 0;", "treat 1 0 1;", "out 1;", "show 5 5;",
                "hide 5 5;", "scare 5 5;", "treat 5 5 9;", "out 5;"}) {
                till(county, "pick;" + deed + "pick;", 1);
            }
            for (String deed : new String[] {"show 0 0;", "hide 0 0;", "scare 0 0;", "treat 0 0 1;", "out 0;"}) {
                till(county, "pick;" + deed + "pick;", 3);
                till("", "pick;" + deed, 1);
            }
            till(county, "pick;out 0;out 0;", 2);
            till("", "pick;year;pick;", 3);
            // Those whom another COUNTY had in this one's place are not there.
            PointedBench x = Calls.withYear("man 9;man 9;child 1 1;child 1 1;", "pick;out 1;");
            Calls.due("it can be", x.till(0, 0), 2);
            Calls.due("fewer in its place", Calls.read(x, 0, 0, "man 9;child 1 1;"), 0);
            Calls.due("it can't be", x.till(0, 0), 1);
            Calls.due("another YEAR", Calls.read(x, 1, 0, "pick;show 1 0;"), 0);
            Calls.due("it can't be, either", x.till(0, 0), 1);
        });
        Edges.edge("END: the first DEED that can't be, else how many there are.", () -> {
            String county = "man 9;child 1 1;";
            till(county, "", 0);
            till(county, "pick;year;", 2);
            till(county, "show 1 0;pick;", 0);
            till(county, "pick;show 1 0;pick;hide 1 0;", 1);
            till(county, "pick;".repeat(40), 40);
            till(county, "pick;".repeat(39) + "out 1;", 39);
        });
        Edges.edge("A STATE is behind the first n DEEDS, n up to END.", () -> {
            PointedBench x = Calls.withYear("man 9;child 1 1;", "pick;year;show 1 0;year;");
            Calls.due("behind none", x.state(0, 0, 0, 0), 0);
            Calls.due("behind one", x.state(0, 0, 1, 1), 0);
            Calls.due("behind END", x.state(0, 0, 2, 0), 1);
            Calls.due("behind one that can't be", x.state(0, 0, 3, 0), NONE);
            Calls.due("behind all", x.state(0, 0, 4, 0), NONE);
            Calls.due("behind all that can be", behind("child 1 1;", "year;year;", 0), 2);
        });
    }

    private static void till() {
        Edges.ofPromise(8);
        Edges.edge("END.", () -> {
            till("", "", 0);
            till("", "year;show 0 0;", 1);
        });
        Edges.edge("NONE: there is none such (of either).", () -> {
            PointedBench x = Calls.withYear("man 1;", "show 0 0;");
            for (int k : new int[] {1, 2, -1, MIN, MAX}) {
                Calls.due("COUNTY " + k, x.till(k, 0), NONE);
                Calls.due("YEAR " + k, x.till(0, k), NONE);
            }
            Calls.due("without a YEAR", Calls.withCounty("man 1;").till(0, 0), NONE);
            PointedBench y = new PointedBench();
            Calls.due("a YEAR alone", Calls.read(y, 1, NONE, "pick;"), 0);
            Calls.due("without a COUNTY", y.till(0, 0), NONE);
            Calls.due("both", Calls.read(x, 0, NONE, "") + Calls.read(x, 1, NONE, ""), 2);
            Calls.due("the other COUNTY", x.till(1, 0), 0);
            Calls.due("the other YEAR", x.till(0, 1), 0);
        });
    }

    /** CHILD 0 POINTS to 0, 1 to 1, 2 to 1, but has no VOTE. END is 7: there is no gaoler then. */
    private static final String COUNTY = "man 3;man 1;child 12 30;child 5 2;child 13 9;has 0 0;has 1 1;likes 0 0 4;"
        + "likes 1 1 5;likes 2 1 1;fears 2 0;";
    private static final String YEAR = "pick;show 0 2;treat 1 2 9;out 1;year;out 0;pick;out 2;year;";

    private static void state() {
        Edges.ofPromise(9);
        Edges.edge("Of a STATE, what 0: the year, 1: the gaoler (6: nobody), 2: how often was picked,", () -> {
            int[] year = {0, 0, 0, 0, 0, 1, 1, 1};
            int[] gaoler = {6, 0, 0, 0, 0, 0, 0, 6};
            int[] picks = {0, 1, 1, 1, 1, 1, 1, 2};
            PointedBench x = Calls.withYear(COUNTY, YEAR);
            for (int n = 0; n < 8; n++) {
                Calls.due("the year behind " + n, x.state(0, 0, n, 0), year[n]);
                Calls.due("the gaoler behind " + n, x.state(0, 0, n, 1), gaoler[n]);
                Calls.due("picks behind " + n, x.state(0, 0, n, 2), picks[n]);
            }
        });
        Edges.edge("3: CHILDREN that have a VOTE (bits), 4: who would be PICKED by a bench of all (6: nobody),", () -> {
            int[] votes = {3, 3, 3, 3, 1, 0, 0, 0};
            int[] who = {0, 0, 0, 0, 0, 6, 6, 6};
            PointedBench x = Calls.withYear(COUNTY, YEAR);
            for (int n = 0; n < 8; n++) {
                Calls.due("VOTES behind " + n, x.state(0, 0, n, 3), votes[n]);
                Calls.due("who behind " + n, x.state(0, 0, n, 4), who[n]);
            }
            Calls.due("all six have one", atFirst("child 1 1;".repeat(6), 3), 63);
        });
        Edges.edge("5: how many got out,", () -> {
            int[] outs = {0, 0, 0, 0, 1, 1, 2, 2};
            PointedBench x = Calls.withYear(COUNTY, YEAR);
            for (int n = 0; n < 8; n++) {
                Calls.due("outs behind " + n, x.state(0, 0, n, 5), outs[n]);
            }
            Calls.due("none by a year", behind("child 1 1;", "year;", 5), 0);
        });
        Edges.edge("10 + m: TRAITS of a MAN (bits), 20 + c, 30 + c, 40 + c: AGE, TERM, what a CHILD FEARS (bits),", () -> {
            int[][] due = {{10, 5}, {11, 2}, {20, 13}, {21, 6}, {22, 14}, {30, 0}, {31, 0}, {32, 8}, {40, 0}, {41, 0}, {42, 1}};
            PointedBench x = Calls.withYear(COUNTY, YEAR);
            for (int[] row : due) {
                Calls.due("what " + row[0], x.state(0, 0, 7, row[0]), row[1]);
            }
            String six = "man 1;".repeat(6) + "has 5 5;" + "child 1 1;".repeat(5) + "child 7 8;fears 5 5;";
            Calls.due("the last MAN", atFirst(six, 15), 32);
            Calls.due("AGE of the last CHILD", atFirst(six, 25), 7);
            Calls.due("TERM of the last CHILD", atFirst(six, 35), 8);
            Calls.due("what the last CHILD FEARS", atFirst(six, 45), 32);
        });
        Edges.edge("50 + c: to whom it POINTS, VOTE or not (6: to nobody),", () -> {
            PointedBench x = Calls.withYear(COUNTY, YEAR);
            int[][] due = {{0, 50, 0}, {0, 51, 1}, {0, 52, 1}, {3, 51, 0}, {7, 50, 0}, {7, 51, 0}, {7, 52, 1}};
            for (int[] row : due) {
                Calls.due("what " + row[1] + " behind " + row[0], x.state(0, 0, row[0], row[1]), row[2]);
            }
            Calls.due("to nobody", atFirst("man 1;child 20 0;has 0 0;fears 0 0;", 50), 6);
            Calls.due("without MEN", atFirst("child 20 0;", 50), 6);
        });
        Edges.edge("100 + 10 c + t: how much it LIKES a TRAIT.", () -> {
            int[][] due = {{100, 4}, {105, 0}, {111, 5}, {112, 9}, {115, 0}, {121, 1}};
            PointedBench x = Calls.withYear(COUNTY, YEAR);
            for (int[] row : due) {
                Calls.due("what " + row[0], x.state(0, 0, 7, row[0]), row[1]);
            }
            Calls.due("the last of the last", atFirst("child 1 1;".repeat(6) + "likes 5 5 9;", 155), 9);
        });
        Edges.edge("NONE: there is no such STATE,", () -> {
            PointedBench x = Calls.withYear(COUNTY, YEAR);
            for (int n : new int[] {8, 9, 10, 40, 41, -1, MIN, MAX}) {
                Calls.due("n " + n, x.state(0, 0, n, 0), NONE);
            }
            for (int k : new int[] {1, 2, -1, MIN, MAX}) {
                Calls.due("COUNTY " + k, x.state(k, 0, 0, 0), NONE);
                Calls.due("YEAR " + k, x.state(0, k, 0, 0), NONE);
            }
            Calls.due("beyond all DEEDS", Calls.withYear("", "year;").state(0, 0, 2, 0), NONE);
            Calls.due("beyond all, with a MAN", Calls.withYear("man 1;", "year;").state(0, 0, 2, 0), NONE);
            PointedBench most = Calls.withYear("man 1;", "year;".repeat(40));
            Calls.due("behind 40", most.state(0, 0, 40, 0), 40);
            Calls.due("beyond 40", most.state(0, 0, 41, 0), NONE);
            Calls.due("far beyond 40", most.state(0, 0, MAX, 0), NONE);
            Calls.due("beyond none", Calls.withYear("", "").state(0, 0, 1, 0), NONE);
        });
        Edges.edge("or for another what.", () -> wrongWhats(what -> Calls.withYear("man 1;", "").state(0, 0, 0, what),
            what -> Calls.withYear("child 1 1;", "").state(0, 0, 0, what)));
    }

    private interface Asked {
        int at(int what);
    }

    /** What state() and drawn() say of a MAN alone and of a CHILD alone, by numbers that tell of nothing there. */
    private static void wrongWhats(Asked man, Asked child) {
        for (int what : new int[] {6, 7, 8, 9, 11, 15, 16, 19, 20, 30, 40, 50, 60, 70, 99, 100, 110, 160, -1, -10, MIN, MAX}) {
            Calls.due("what " + what + " of a MAN alone", man.at(what), NONE);
        }
        for (int what : new int[] {6, 9, 10, 16, 21, 26, 31, 36, 41, 46, 51, 56, 60, 66, 90, 106, 109, 110, 160, -1, MIN, MAX}) {
            Calls.due("what " + what + " of a CHILD alone", child.at(what), NONE);
        }
        Calls.due("TRAITS of the MAN", man.at(10), 0);
        Calls.due("AGE of the CHILD", child.at(20), 1);
        Calls.due("what it LIKES", child.at(105), 0);
    }

    private static void picked() {
        Edges.ofPromise(10);
        Edges.edge("Who is PICKED by a bench of CHILDREN (bits), 6: nobody.", () -> {
            PointedBench x = Calls.withCounty("man 0;man 0;" + "child 1 1;".repeat(6) + "has 1 0;likes 5 0 1;likes 4 0 1;");
            Calls.due("nobody", x.picked(0, 0), 6);
            Calls.due("the first", x.picked(0, 1), 0);
            Calls.due("the last", x.picked(0, 32), 1);
            Calls.due("the last two and one", x.picked(0, 49), 1);
            Calls.due("all", x.picked(0, 63), 0);
            // There are no CHILDREN for these bits.
            PointedBench y = Calls.withCounty("man 0;child 1 1;");
            Calls.due("bits of none", y.picked(0, 62), 6);
            Calls.due("bits of one", y.picked(0, 63), 0);
        });
        Edges.edge("NONE: others than bits of 0 .. 63,", () -> {
            PointedBench x = Calls.withCounty("man 0;child 1 1;");
            for (int bench : new int[] {64, 65, 127, 128, -1, -64, MIN, MAX}) {
                Calls.due("bench " + bench, x.picked(0, bench), NONE);
            }
        });
        Edges.edge("or there is none such.", () -> {
            PointedBench x = Calls.withCounty("man 0;child 1 1;");
            for (int k : new int[] {1, 2, -1, MIN, MAX}) {
                Calls.due("COUNTY " + k, x.picked(k, 1), NONE);
            }
            Calls.due("no COUNTIES", new PointedBench().picked(0, 1), NONE);
        });
    }

    /** MAN 0 is LIKED by 5; MAN 1, if he is to be PICKED, by a treat; both can be FEARED. */
    private static final String TWO = "man 1;man 1;child 1 30;has 0 0;has 1 1;likes 0 0 5;";
    private static final String TO_FIRST = "pick;";
    private static final String TO_SECOND = "treat 0 1 9;pick;";
    private static final String TO_NOBODY = "scare 0 0;scare 0 1;pick;";

    private static void after(String county, String year, int what, int due) {
        PointedBench x = Calls.withYear(county, year);
        Calls.due("after " + what + " of " + year + " in " + county, x.after(0, 0, what), due);
        Calls.due("once more, after " + what + " of " + year + " in " + county, x.after(0, 0, what), due);
    }

    private static void afterGaolers() {
        Edges.ofTerm(6);
        Edges.edge("Of a YEAR in a COUNTY, behind all DEEDS up to END:", () -> {
            String end = "show 2 0;";
            after(TWO, end + TO_FIRST, 0, NONE);
            after(TWO, TO_FIRST + end + TO_SECOND, 1, 1);
            after(TWO, TO_FIRST + "year;treat 0 1 9;pick;" + end + "year;year;", 2, 0);
            after(TWO, end + "treat 0 1 9;", 3, NONE);
            after(TWO, "show 0 5;" + end + "show 1 5;", 4, 1);
            after(TWO, "scare 0 5;" + end + "scare 0 4;", 5, 1);
            // All of 40 DEEDS, and no more; nor those of a longer YEAR that stood in its place.
            int[] due = {39, 1, NONE, NONE, 0, 0};
            int[] none = {NONE, 0, NONE, NONE, 0, 0};
            String much = "pick;show 0 5;scare 0 0;year;year;";
            for (int what = 0; what < 6; what++) {
                after(TWO, "hide 0 5;".repeat(39) + TO_FIRST, what, due[what]);
                PointedBench x = Calls.withYear(TWO, much);
                Calls.due("a shorter one", Calls.read(x, 1, 0, ""), 0);
                Calls.due("what " + what + " of it", x.after(0, 0, what), none[what]);
            }
        });
        Edges.edge("FIRST: the DEED (from 0 on) by which one was first the gaoler (none);", () -> {
            after(TWO, TO_FIRST + TO_SECOND, 0, 0);
            after(TWO, "year;year;" + TO_SECOND + TO_FIRST, 0, 3);
            after(TWO, TO_NOBODY + "hide 1 1;" + TO_FIRST, 0, 4);
            after(TWO, TO_NOBODY, 0, NONE);
            after(TWO, "year;", 0, NONE);
            after(TWO, "", 0, NONE);
            after(TWO, "year;".repeat(11) + TO_FIRST, 0, 11);
        });
        Edges.edge("CHANGES: how often another one (or nobody) was the gaoler behind a pick than ahead of it;", () -> {
            after(TWO, TO_FIRST, 1, 1);
            after(TWO, TO_FIRST + TO_FIRST, 1, 1);
            after(TWO, TO_FIRST + TO_SECOND, 1, 2);
            after(TWO, TO_FIRST + TO_SECOND + TO_NOBODY, 1, 3);
            after(TWO, TO_NOBODY + TO_NOBODY, 1, 0);
            after(TWO, TO_FIRST + "scare 0 0;scare 0 1;year;", 1, 1);
            after(TWO, "", 1, 0);
        });
        Edges.edge("REIGN: the MAN who was the gaoler, as a year (the DEED) came, most often, of several the least (none);", () -> {
            after(TWO, TO_FIRST + "year;" + TO_SECOND + "year;", 2, 0);
            after(TWO, TO_SECOND + "year;" + "treat 0 0 9;" + TO_FIRST + "year;", 2, 0);
            after(TWO, TO_FIRST + "year;" + TO_SECOND + "year;year;", 2, 1);
            after(TWO, "year;year;" + TO_SECOND + "year;", 2, 1);
            after(TWO, TO_SECOND + "year;" + TO_NOBODY + "year;year;", 2, 1);
            after("man 1;".repeat(6) + "child 1 9;has 5 0;likes 0 0 1;", TO_FIRST + "year;", 2, 5);
            after(TWO, TO_SECOND, 2, NONE);
            after(TWO, "year;year;", 2, NONE);
            after(TWO, TO_NOBODY + "year;", 2, NONE);
            after(TWO, "", 2, NONE);
        });
    }

    private static void afterOthers() {
        // Both POINT to 0, as they LIKE both MEN alike; the second one has no VOTE.
        String two = "man 1;man 1;child 1 1;child 20 0;has 0 0;has 1 1;";
        Edges.edge("FICKLE: the CHILD that, of one STATE and the next one, most often POINTS to others, of several the least"
            + " (none: never);", () -> {
            after(two, "treat 1 1 1;treat 0 1 1;", 3, 0);
            after(two, "treat 0 1 1;treat 1 1 1;treat 1 0 1;", 3, 1);
            after(two, "treat 0 1 1;scare 1 0;scare 1 1;", 3, 1);
            after(two, "treat 0 0 1;treat 1 0 9;", 3, NONE);
            after(two, "pick;year;pick;", 3, NONE);
            after(two, "", 3, NONE);
            after("man 1;", "show 0 0;", 3, NONE);
            // To the same from the first STATE on.
            after(two + "likes 0 1 1;likes 1 1 1;", "pick;year;", 3, NONE);
            after(two + "likes 0 1 1;", "treat 1 1 1;", 3, 1);
            // The last of six.
            after("man 1;man 1;has 1 0;" + "child 1 1;".repeat(6), "treat 5 0 1;", 3, 5);
            // By one DEED both POINT to another one, by the next one back; then one of them alone does.
            after(two, "treat 0 2 1;treat 1 2 1;show 1 2;hide 1 2;treat 1 1 1;", 3, 1);
        });
        Edges.edge("SHOWN, SCARED: how many DEEDS show, scare there were by which a MAN HAS, a CHILD FEARS more.", () -> {
            String both = two + "fears 0 0;";
            after(both, "show 0 0;", 4, 0);
            after(both, "show 0 1;", 4, 1);
            after(both, "show 0 1;show 0 1;", 4, 1);
            after(both, "hide 0 0;show 0 0;show 1 5;", 4, 2);
            after(both, "hide 0 0;hide 0 0;scare 0 1;", 4, 0);
            after(both, "", 4, 0);
            after(both, "scare 0 0;", 5, 0);
            after(both, "scare 0 1;scare 0 1;scare 1 1;", 5, 2);
            after(both, "show 0 5;", 5, 0);
            after(both, "", 5, 0);
            StringBuilder all = new StringBuilder();
            for (int trait = 0; trait < 6; trait++) {
                all.append("show 0 ").append(trait).append(";scare 1 ").append(trait).append(';');
            }
            after(both, all.toString(), 4, 5);
            after(both, all.toString(), 5, 6);
            // The last of six.
            after("man 1;".repeat(6), "show 5 5;", 4, 1);
            after("child 1 1;".repeat(6), "scare 5 5;", 5, 1);
        });
    }

    private static void after() {
        Edges.ofPromise(36);
        Edges.edge("What 0: FIRST (NONE), 1: CHANGES, 2: REIGN (NONE), 3: FICKLE (NONE), 4: SHOWN, 5: SCARED.", () -> {
            int[] none = {NONE, 0, NONE, NONE, 0, 0};
            int[] due = {2, 2, 1, 0, 3, 1};
            PointedBench x = Calls.withYear(TWO, "show 0 2;show 0 3;pick;scare 0 0;year;show 0 5;pick;year;year;");
            for (int what = 0; what < 6; what++) {
                after(TWO, "", what, none[what]);
                after("", "pick;year;", what, none[what]);
                Calls.due("after " + what, x.after(0, 0, what), due[what]);
            }
            // One behind the other, each asked as if it were the first.
            PointedBench y = Calls.withYear(TWO, "pick;scare 0 0;year;pick;year;year;year;");
            for (int time = 0; time < 3; time++) {
                Calls.due("REIGN", y.after(0, 0, 2), 1);
                Calls.due("FICKLE", y.after(0, 0, 3), 0);
                Calls.due("CHANGES", y.after(0, 0, 1), 2);
                Calls.due("SCARED", y.after(0, 0, 5), 1);
            }
            PointedBench z = Calls.withYear(TWO, "pick;year;treat 0 1 6;pick;year;year;");
            for (int time = 0; time < 3; time++) {
                Calls.due("FICKLE once more", z.after(0, 0, 3), 0);
                Calls.due("REIGN once more", z.after(0, 0, 2), 1);
            }
        });
        Edges.edge("-2: there is none such (of either),", () -> {
            PointedBench x = Calls.withYear(TWO, TO_FIRST);
            for (int what = 0; what < 6; what++) {
                for (int k : new int[] {1, 2, -1, MIN, MAX}) {
                    Calls.due("COUNTY " + k, x.after(k, 0, what), -2);
                    Calls.due("YEAR " + k, x.after(0, k, what), -2);
                }
            }
            Calls.due("no YEARS", Calls.withCounty(TWO).after(0, 0, 0), -2);
        });
        Edges.edge("or for another what.", () -> {
            PointedBench x = Calls.withYear(TWO, TO_FIRST);
            for (int what : new int[] {6, 7, 10, -1, -2, MIN, MAX}) {
                Calls.due("what " + what, x.after(0, 0, what), -2);
            }
        });
    }

    /** A seed by which, below the bounds told, the numbers told come: bound, number, bound, number, .. */
    private static int seed(int... wanted) {
        for (int k = 0; k < 50_000_000; k++) {
            // Seeds of both signs, far from one another.
            int seed = k * 0x9e3779b1;
            long x = seed & 0xffffffffL;
            boolean comes = true;
            for (int i = 0; i < wanted.length && comes; i += 2) {
                x = step(x);
                comes = (x >> 16) % wanted[i] == wanted[i + 1];
            }
            if (comes) {
                return seed;
            }
        }
        throw new IllegalStateException("no such seed");
    }

    private static long step(long x) {
        return (x * 1103515245L + 12345L) & 0xffffffffL;
    }

    /** A COUNTY without anybody: each number drawn is one DEED, or none. */
    private static void drawnAlone(int seed, int n) {
        PointedBench x = Calls.withCounty("");
        long now = seed & 0xffffffffL;
        int picks = 0;
        int years = 0;
        for (int i = 0; i < n; i++) {
            now = step(now);
            long number = (now >> 16) % 10;
            picks += number == 6 || number == 7 ? 1 : 0;
            years += number >= 8 ? 1 : 0;
        }
        Calls.due("picks by " + seed + ", " + n, x.drawn(0, seed, n, 2), picks);
        Calls.due("years by " + seed + ", " + n, x.drawn(0, seed, n, 0), years);
    }

    private static void lots() {
        Edges.ofTerm(4);
        Edges.edge("DRAWN by a SEED, x; a number below n is drawn: x becomes x * 1103515245 + 12345 (of 32 bits),", () -> {
            for (int seed : new int[] {0, 1, -1, 2, 65535, 65536, MIN, MIN + 1, MAX, MAX - 1, 0x55555555}) {
                for (int n : new int[] {1, 2, 3, 10, 60}) {
                    drawnAlone(seed, n);
                }
            }
        });
        Edges.edge("it is x shifted right by 16 without sign, remainder by n:", () -> {
            // 2 becomes 2207042835, more than 31 bits: 33676, so 6.
            PointedBench x = Calls.withCounty("");
            Calls.due("picks by 2", x.drawn(0, 2, 1, 2), 1);
            Calls.due("years by 2", x.drawn(0, 2, 1, 0), 0);
            // 1 becomes 1103527590: 16838, so 8.
            Calls.due("years by 1", x.drawn(0, 1, 1, 0), 1);
            for (int seed = -200; seed < 200; seed++) {
                drawnAlone(seed * 10_000_019, 1);
            }
        });
        Edges.edge("n times, 0 to 60:", () -> {
            PointedBench x = Calls.withCounty("man 1;child 1 1;");
            Calls.due("none", x.drawn(0, seed(10, 8), 0, 0), 0);
            Calls.due("one", x.drawn(0, seed(10, 8), 1, 0), 1);
            drawnAlone(5, 59);
            drawnAlone(5, 60);
            Calls.due("61", x.drawn(0, 5, 61, 0), NONE);
            Calls.due("-1", x.drawn(0, 5, -1, 0), NONE);
        });
        Edges.edge("(Without MEN 0 to 2, without CHILDREN 3 to 5 draw no more, nothing is done.)", () -> {
            PointedBench x = Calls.withCounty("child 1 30;");
            PointedBench y = Calls.withCounty("man 9;");
            for (int number = 0; number < 3; number++) {
                Calls.due("without MEN, " + number, x.drawn(0, seed(10, number, 10, 8), 2, 0), 1);
                Calls.due("without CHILDREN, " + (3 + number), y.drawn(0, seed(10, 3 + number, 10, 8), 2, 0), 1);
            }
            Calls.due("a CHILD without MEN", x.drawn(0, seed(10, 3, 1, 0, 6, 4), 1, 40), 16);
            Calls.due("a MAN without CHILDREN", y.drawn(0, seed(10, 0, 1, 0, 6, 4), 1, 10), 16);
        });
    }

    private static void drawnDeeds() {
        // Two MEN who HAVE 5, three CHILDREN; each could be let out by either MAN.
        PointedBench x = Calls.withCounty("man 9;man 9;child 1 30;child 1 30;child 1 30;has 0 5;has 1 5;likes 2 5 7;");
        Edges.edge("a number below 10: 0, 1: show, 2: hide, a MAN, below MEN, a TRAIT, below 6;", () -> {
            Calls.due("0: the last of both", x.drawn(0, seed(10, 0, 2, 1, 6, 4), 1, 11), 48);
            Calls.due("1: the first of both", x.drawn(0, seed(10, 1, 2, 0, 6, 0), 1, 10), 33);
            Calls.due("1: one he HAS", x.drawn(0, seed(10, 1, 2, 0, 6, 5), 1, 10), 32);
            Calls.due("2: the last of both", x.drawn(0, seed(10, 2, 2, 1, 6, 5), 1, 11), 0);
            Calls.due("2: one he HAS not", x.drawn(0, seed(10, 2, 2, 1, 6, 0), 1, 11), 32);
            Calls.due("two numbers more", x.drawn(0, seed(10, 0, 2, 1, 6, 4, 10, 8), 2, 0), 1);
            Calls.due("two more for a hide", x.drawn(0, seed(10, 2, 2, 1, 6, 4, 10, 8), 2, 0), 1);
        });
        Edges.edge("3: scare, a CHILD, below CHILDREN, a TRAIT;", () -> {
            Calls.due("the last of both", x.drawn(0, seed(10, 3, 3, 2, 6, 5), 1, 42), 32);
            Calls.due("the first of both", x.drawn(0, seed(10, 3, 3, 0, 6, 0), 1, 40), 1);
            Calls.due("two numbers more", x.drawn(0, seed(10, 3, 3, 2, 6, 4, 10, 8), 2, 0), 1);
        });
        Edges.edge("4: treat, a CHILD, a TRAIT, 1 more than a number below 3;", () -> {
            Calls.due("by 1", x.drawn(0, seed(10, 4, 3, 2, 6, 0, 3, 0), 1, 120), 1);
            Calls.due("by 3", x.drawn(0, seed(10, 4, 3, 0, 6, 5, 3, 2), 1, 105), 3);
            Calls.due("to 9 at most", x.drawn(0, seed(10, 4, 3, 2, 6, 5, 3, 2), 1, 125), 9);
            Calls.due("three numbers more", x.drawn(0, seed(10, 4, 3, 2, 6, 5, 3, 2, 10, 8), 2, 0), 1);
        });
        Edges.edge("5: out, a CHILD; 6, 7: pick; 8, 9: year;", () -> {
            Calls.due("out of the last", x.drawn(0, seed(10, 6, 10, 5, 3, 2), 2, 32), 0);
            Calls.due("out of the first", x.drawn(0, seed(10, 7, 10, 5, 3, 0), 2, 30), 0);
            Calls.due("one got out", x.drawn(0, seed(10, 7, 10, 5, 3, 0), 2, 5), 1);
            Calls.due("one number more", x.drawn(0, seed(10, 5, 3, 0, 10, 8), 2, 0), 1);
            for (int number = 0; number < 10; number++) {
                Calls.due("picks by " + number, x.drawn(0, seed(10, number), 1, 2), number == 6 || number == 7 ? 1 : 0);
                Calls.due("years by " + number, x.drawn(0, seed(10, number), 1, 0), number >= 8 ? 1 : 0);
            }
            Calls.due("no number more", x.drawn(0, seed(10, 6, 10, 8, 10, 9, 10, 7), 4, 0), 2);
        });
        Edges.edge("each, if it may.", () -> {
            int seed = seed(10, 5, 3, 1, 10, 9);
            Calls.due("nobody gets out without a gaoler", x.drawn(0, seed, 1, 5), 0);
            Calls.due("the TERM is as it was", x.drawn(0, seed, 1, 31), 30);
            Calls.due("what comes next is done", x.drawn(0, seed, 2, 31), 29);
            Calls.due("twice out", x.drawn(0, seed(10, 6, 10, 5, 3, 1, 10, 5, 3, 1, 10, 9), 4, 5), 1);
            Calls.due("and the year", x.drawn(0, seed(10, 6, 10, 5, 3, 1, 10, 5, 3, 1, 10, 9), 4, 0), 1);
            PointedBench unkind = Calls.withCounty("man 2;child 1 21;");
            Calls.due("not by him", unkind.drawn(0, seed(10, 6, 10, 5, 1, 0), 2, 30), 21);
            Calls.due("by him a year later", unkind.drawn(0, seed(10, 6, 10, 8, 10, 5, 1, 0), 3, 30), 0);
        });
    }

    private static void drawn() {
        Edges.ofPromise(19);
        Edges.edge("DRAWN, n times, what as state().", () -> {
            PointedBench x = Calls.withYear(COUNTY, "");
            for (int what = 0; what < 170; what++) {
                Calls.due("no times, what " + what, x.drawn(0, 77, 0, what), x.state(0, 0, 0, what));
            }
            Calls.due("the COUNTY is as told behind it", x.drawn(0, 77, 60, 0) >= 0 && x.county(0, 40) == 30, true);
        });
        Edges.edge("NONE: there is none such,", () -> {
            PointedBench x = Calls.withCounty(COUNTY);
            for (int k : new int[] {1, 2, -1, MIN, MAX}) {
                Calls.due("COUNTY " + k, x.drawn(k, 1, 1, 0), NONE);
            }
            Calls.due("no COUNTIES", new PointedBench().drawn(0, 1, 1, 0), NONE);
        });
        Edges.edge("another n,", () -> {
            PointedBench x = Calls.withCounty(COUNTY);
            for (int n : new int[] {61, 62, 100, -1, -2, MIN, MAX}) {
                Calls.due("n " + n, x.drawn(0, 1, n, 0), NONE);
            }
            Calls.due("n 60", x.drawn(0, 1, 60, 30) >= 0, true);
        });
        Edges.edge("or for another what.", () -> wrongWhats(what -> Calls.withCounty("man 1;").drawn(0, 1, 0, what),
            what -> Calls.withCounty("child 1 1;").drawn(0, 1, 0, what)));
    }
}
