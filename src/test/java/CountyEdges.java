/** Boundary cases of DUELS and of all that is asked about a COUNTY as told: Term 6, Promises 20 to 35. */
final class CountyEdges {
    private static final int NONE = PointedBench.NONE;
    private static final int MIN = Integer.MIN_VALUE;
    private static final int MAX = Integer.MAX_VALUE;
    private static final int[] NO_COUNTY = {1, 2, -1, MIN, MAX};
    private static final int[] NOBODY = {1, 2, 5, 6, 32, -1, -2, MIN, MAX};
    private static final String SIX_MEN = "man 0;".repeat(6);
    private static final String SIX_CHILDREN = "child 1 1;".repeat(6);
    private static final String ONE_OF_EACH = "man 5;child 1 1;";

    /** 0 is ahead of 1, 1 of 2, 2 of 0, by two CHILDREN to one each time. */
    private static final String CYCLE = "man 0;man 0;man 0;child 1 1;child 1 2;child 1 3;has 0 0;has 1 1;has 2 2;likes 0 0 3;"
        + "likes 0 1 2;likes 0 2 1;likes 1 1 3;likes 1 2 2;likes 1 0 1;likes 2 2 3;likes 2 0 2;likes 2 1 1;";

    private CountyEdges() {
    }

    static void tell() {
        duelTerms();
        runoffAndAgendaTerms();
        liesTerm();
        bestTerms();
        benchTerms();
        tradeAndGangTerms();
        kindTerms();
        bunTerm();
        wingsTerm();
        laterTerm();
        duelAndBest();
        ofOneMan();
        ofTwoMen();
        ofRows();
        ofChildren();
        ofYears();
    }

    private static void dueOf(String what, String county, long got, long due) {
        Calls.due(what + " in " + county, got, due);
    }

    private static void duelOf(String county, int a, int b, int due) {
        PointedBench x = Calls.withCounty(county);
        dueOf("duel of " + a + " and " + b, county, x.duel(0, a, b), due);
        dueOf("once more, duel of " + a + " and " + b, county, x.duel(0, a, b), due);
    }

    private static void bestOf(String county, int what, int due) {
        PointedBench x = Calls.withCounty(county);
        dueOf("best, what " + what, county, x.best(0, what), due);
        dueOf("once more, best, what " + what, county, x.best(0, what), due);
    }

    private static void duelTerms() {
        Edges.ofTerm(6);
        Edges.edge("The constants: `NONE = -1`: There is none.", () -> Calls.due("NONE", PointedBench.NONE, -1));
        String two = "man 0;man 0;child 1 1;has 0 0;has 1 1;";
        Edges.edge("A CHILD PUTS a MAN above another one, if it FEARS no TRAIT he HAS, and it FEARS one the other one HAS, or"
            + " LIKES the TRAITS of the first one more together.", () -> {
            duelOf(two, 0, 1, 0);
            duelOf(two, 1, 0, 0);
            duelOf(two + "likes 0 0 1;", 0, 1, 1);
            duelOf(two + "likes 0 0 1;", 1, 0, 0);
            duelOf(two + "likes 0 0 1;likes 0 1 1;", 0, 1, 0);
            duelOf(two + "fears 0 1;likes 0 1 9;", 0, 1, 1);
            duelOf(two + "fears 0 1;likes 0 1 9;", 1, 0, 0);
            duelOf(two + "fears 0 0;fears 0 1;likes 0 0 9;", 0, 1, 0);
            duelOf(two + "fears 0 0;fears 0 1;likes 0 0 9;", 1, 0, 0);
            duelOf(two + "fears 0 5;", 0, 1, 0);
        });
        Edges.edge("DUEL of two unlike MEN: how many CHILDREN that have a VOTE PUT the first one above the other one.", () -> {
            String five = "man 0;man 0;child 12 1;child 13 1;child 12 0;child 0 30;child 20 30;has 0 0;likes 0 0 1;"
                + "likes 1 0 1;likes 2 0 1;likes 3 0 1;likes 4 0 1;";
            duelOf(five, 0, 1, 2);
            duelOf(five, 1, 0, 0);
            duelOf("man 0;man 0;" + SIX_CHILDREN + "has 1 0;likes 0 0 1;likes 1 0 1;likes 2 0 1;likes 3 0 1;likes 4 0 1;"
                + "likes 5 0 1;", 1, 0, 6);
            duelOf("man 0;man 0;", 0, 1, 0);
        });
        Edges.edge("BEST: the MAN of whom DUELS with each other one are more than the other way about (one MAN alone is; none:"
            + " none).", () -> {
            bestOf("man 0;", 0, 0);
            bestOf("", 0, NONE);
            bestOf("child 1 1;", 0, NONE);
            bestOf("man 0;man 0;", 0, NONE);
            bestOf(SIX_MEN, 0, NONE);
            bestOf(CYCLE, 0, NONE);
            bestOf(two + "likes 0 1 1;", 0, 1);
            // As many the one way as the other.
            bestOf(two + "likes 0 1 1;child 1 1;likes 1 0 1;", 0, NONE);
            bestOf(two + "likes 0 1 1;child 1 1;likes 1 0 1;child 13 1;likes 2 0 1;", 0, NONE);
            // Ahead of one, but not of the other, who is ahead of nobody.
            bestOf("man 0;man 0;man 0;child 1 1;has 0 0;has 2 0;likes 0 0 1;", 0, NONE);
            bestOf(SIX_MEN + "child 1 1;has 5 0;likes 0 0 1;", 0, 5);
        });
        Edges.edge("SCORE of a MAN: DUELS of him with all others together.", () -> {
            bestOf("man 0;child 1 1;", 10, 0);
            bestOf(SIX_MEN + SIX_CHILDREN + "has 5 0;likes 0 0 1;likes 1 0 1;likes 2 0 1;likes 3 0 1;likes 4 0 1;likes 5 0 1;",
                15, 30);
            bestOf(SIX_MEN + SIX_CHILDREN + "has 5 0;likes 0 0 1;", 14, 0);
            bestOf(CYCLE, 10, 3);
        });
    }

    private static void rowOf(String what, String county, int[] got, int[] due) {
        for (int k = 0; k < due.length; k++) {
            dueOf(what + " at " + k, county, got[k], due[k]);
        }
    }

    private static void runoffOf(String county, int... due) {
        PointedBench x = Calls.withCounty(county);
        int[] got = new int[due.length];
        for (int k = 0; k < due.length; k++) {
            got[k] = x.runoff(0, k);
        }
        rowOf("runoff", county, got, due);
        dueOf("runoff beyond", county, x.runoff(0, due.length), NONE);
    }

    private static void agendaOf(String county, int man, int... due) {
        PointedBench x = Calls.withCounty(county);
        int[] got = new int[due.length];
        for (int k = 0; k < due.length; k++) {
            got[k] = x.agenda(0, man, k);
        }
        rowOf("agenda of " + man, county, got, due);
        dueOf("agenda beyond", county, x.agenda(0, man, due.length), NONE);
    }

    private static void runoffAndAgendaTerms() {
        Edges.edge("RUNOFF: MEN go one behind the other, each time the one to whom fewest CHILDREN that have a VOTE POINT, if"
            + " only those left stand, of several the greatest number: the k-th that goes (the one that stays is told as the"
            + " last).", () -> {
            runoffOf("man 0;", 0);
            runoffOf("man 0;man 0;man 0;", 2, 1, 0);
            runoffOf(SIX_MEN, 5, 4, 3, 2, 1, 0);
            runoffOf("man 0;man 0;child 1 1;has 1 0;likes 0 0 1;", 0, 1);
            // One without a VOTE does not count.
            runoffOf("man 0;man 0;child 13 1;has 1 0;likes 0 0 1;", 1, 0);
            // 2 goes, and who POINTED to him POINTS to 1 then, who stays ahead of 0.
            runoffOf("man 0;man 0;man 0;" + "child 1 1;".repeat(5) + "has 0 0;has 1 1;has 2 2;likes 0 0 1;likes 1 0 1;"
                + "likes 2 1 1;likes 3 1 1;likes 4 2 2;likes 4 1 1;", 2, 0, 1);
            // 0 goes, and who POINTED to him POINTS to 2 then.
            runoffOf("man 0;man 0;man 0;" + "child 1 1;".repeat(5) + "has 0 0;has 1 1;has 2 2;likes 0 0 2;likes 0 2 1;"
                + "likes 1 1 1;likes 2 1 1;likes 3 2 1;likes 4 2 1;", 0, 1, 2);
            // All six POINT to the one that stays.
            runoffOf("man 0;man 0;" + SIX_CHILDREN + "has 1 0;likes 0 0 1;likes 1 0 1;likes 2 0 1;likes 3 0 1;likes 4 0 1;"
                + "likes 5 0 1;", 0, 1);
            // FEARING those left it POINTS to nobody.
            runoffOf("man 0;man 0;child 1 1;has 0 0;has 1 0;fears 0 0;", 1, 0);
        });
        Edges.edge("AGENDA of MEN in a row: the first one, then the one that stays of him and the second one (who has more of the"
            + " two DUELS, if as many the one ahead), and so on:", () -> {
            // As many: whoever is the first one stays.
            agendaOf("man 0;man 0;man 0;", 0, 0, 1, 2);
            agendaOf("man 0;man 0;man 0;", 1, 1, 0, 2);
            agendaOf("man 0;man 0;man 0;", 2, 2, 0, 1);
            // One more is enough.
            agendaOf("man 0;man 0;child 1 1;has 1 0;likes 0 0 1;", 1, 0, 1);
        });
        Edges.edge("for a MAN: the first row of all MEN by numbers in which he stays at the end (one MAN alone stays): the k-th.",
            () -> {
                agendaOf("man 0;", 0, 0);
                agendaOf(CYCLE, 0, 1, 2, 0);
                agendaOf(CYCLE, 1, 0, 2, 1);
                agendaOf(CYCLE, 2, 0, 1, 2);
                agendaOf(SIX_MEN, 0, 0, 1, 2, 3, 4, 5);
                agendaOf(SIX_MEN, 5, 5, 0, 1, 2, 3, 4);
                agendaOf(SIX_MEN + "child 1 1;has 3 3;likes 0 3 1;", 3, 0, 1, 2, 3, 4, 5);
                // The last of all 720 rows: 0 is ahead of 1 alone, 1 of 2, 2 of 3, 3 of 5, who is as good as 4.
                agendaOf(SIX_MEN + "child1 1;child1 1;child1 1;has0 0;has1 1;has2 2;has3 3;has4 4;has5 5;likes0 0 1;likes0 2 5;"
                    + "likes0 3 4;likes0 4 5;likes0 5 1;likes1 1 5;likes1 2 2;likes1 4 5;likes1 5 5;likes2 0 4;likes2 1 2;"
                    + "likes2 3 5;likes2 4 3;likes2 5 4;", 0, 5, 4, 3, 2, 1, 0);
            });
    }

    private static void liesOf(String county, int child, int due) {
        dueOf("lies of " + child, county, Calls.withCounty(county).lies(0, child), due);
    }

    private static void liesTerm() {
        Edges.edge("LIES of a CHILD that has a VOTE: the least MAN such that, if it POINTED to him by a bench of all, a MAN would"
            + " be PICKED that it PUTS above the one that is now (none, or nobody is now: none).", () -> {
            // 3 is PICKED by 1 and 2; 0 would have 2 himself, then 1, then 0; by 3 and 4 the MEN 0 and 1 have one each.
            String county = "man 0;man 0;man 0;man 0;" + "child 1 1;".repeat(5) + "has 0 0;has 1 1;has 2 2;has 3 3;likes 0 2 3;"
                + "likes 0 1 2;likes 0 0 1;likes 1 3 1;likes 2 3 1;likes 3 0 1;likes 4 1 1;";
            liesOf(county, 0, 0);
            // By 0 one would be PICKED that it does not PUT above 3.
            liesOf(county + "fears 0 0;", 0, 1);
            liesOf(county + "fears 0 0;fears 0 1;", 0, NONE);
            liesOf(county, 1, NONE);
            liesOf("man 0;child 1 1;", 0, NONE);
            // By CHILD 0, too, 1 is PICKED; the last CHILD would have 2, then 0.
            liesOf("man 0;man 0;man 0;" + "child 1 1;".repeat(4) + "has 0 0;has 1 1;has 2 2;likes 0 1 1;likes 1 1 1;likes 2 0 1;"
                + "likes 3 2 2;likes 3 0 1;", 3, 0);
            // It POINTS to nobody as it FEARS both; no lie has one PICKED that it FEARS not.
            liesOf("man 0;man 0;child 1 1;child 1 1;has 0 0;has 1 1;fears 0 0;fears 0 1;", 0, NONE);
            // Nobody is PICKED now.
            liesOf("man 0;child 1 1;has 0 0;fears 0 0;", 0, NONE);
            liesOf("child 1 1;", 0, NONE);
            // As good as the one that is now is not above him.
            liesOf("man 0;man 0;child 1 1;child 1 1;", 0, NONE);
        });
    }

    private static void bestTerms() {
        Edges.edge("SWEETEST: the TRAIT that all CHILDREN LIKE most together, of several the least;", () -> {
            bestOf("", 1, 0);
            bestOf("child 1 1;child 20 0;likes 0 4 2;likes 0 2 1;likes 1 2 1;", 1, 2);
            bestOf("child 1 1;child 20 0;likes 0 4 2;likes 0 2 1;", 1, 4);
            bestOf(SIX_CHILDREN + "likes 0 0 9;likes 1 0 9;likes 2 0 9;likes 3 0 9;likes 4 0 9;likes 5 0 8;likes 0 5 9;"
                + "likes 1 5 9;likes 2 5 9;likes 3 5 9;likes 4 5 9;likes 5 5 9;", 1, 5);
        });
        Edges.edge("RAREST: the TRAIT that fewest MEN HAVE, of several the least;", () -> {
            bestOf("", 2, 0);
            bestOf("man 0;has 0 0;", 2, 1);
            bestOf("man 0;man 0;has 0 0;has 0 1;has 1 0;has 0 2;has 0 3;has 0 4;has 0 5;has 1 2;has 1 4;has 1 5;", 2, 1);
            StringBuilder all = new StringBuilder(SIX_MEN);
            for (int i = 0; i < 36; i++) {
                all.append("has ").append(i / 6).append(' ').append(i % 6).append(';');
            }
            bestOf(all.toString(), 2, 0);
            bestOf(all.toString().replace("has 5 5;", ""), 2, 5);
        });
        Edges.edge("TWINS: couples of MEN who HAVE the same TRAITS;", () -> {
            bestOf("", 3, 0);
            bestOf("man 0;", 3, 0);
            bestOf("man 0;man 9;", 3, 1);
            bestOf("man 0;man 0;has 0 5;", 3, 0);
            bestOf(SIX_MEN, 3, 15);
            bestOf(SIX_MEN + "has 0 0;has 1 0;has 2 5;has 3 5;has 4 0;has 4 5;", 3, 2);
        });
        Edges.edge("GUARDS: the fewest MEN who HAVE, together, all TRAITS that any MAN HAS: how many; who (bits), of several the"
            + " least;", () -> {
            int[] many = {0, 0, 1, 6, 2, 1};
            int[] who = {0, 0, 2, 63, 5, 1};
            String[] counties = {"", SIX_MEN, "man 0;man 0;has 1 5;", SIX_MEN + "has 0 0;has 1 1;has 2 2;has 3 3;has 4 4;has 5 5;",
                "man 0;man 0;man 0;has 0 0;has 0 1;has 1 1;has 2 2;has 2 3;has 1 3;", "man 0;man 0;has 0 0;has 1 0;"};
            for (int i = 0; i < counties.length; i++) {
                bestOf(counties[i], 4, many[i]);
                bestOf(counties[i], 5, who[i]);
            }
        });
        Edges.edge("LONGEST: the greatest TERM.", () -> {
            bestOf("child 1 0;", 6, 0);
            bestOf("child 20 30;child 1 1;", 6, 30);
            bestOf("child 1 1;child 1 1;child 1 1;child 1 1;child 1 1;child 1 2;", 6, 2);
        });
    }

    private static void fewestOf(String county, int man, int many, int which) {
        PointedBench x = Calls.withCounty(county);
        dueOf("how many of the fewest for " + man, county, x.fewest(0, man, false), many);
        dueOf("which of the fewest for " + man, county, x.fewest(0, man, true), which);
    }

    private static void benchesOf(String county, int man, int due) {
        dueOf("benches of " + man, county, Calls.withCounty(county).benches(0, man), due);
    }

    private static void benchTerms() {
        // 0 and 1 POINT to 1; 2, 3 and 4 to 0; 5 to 1, but has no VOTE.
        String county = "man 0;man 0;" + "child 1 1;".repeat(5) + "child 13 1;has 1 0;likes 0 0 1;likes 1 0 1;likes 5 0 1;";
        Edges.edge("BENCHES of a MAN: by how many benches of CHILDREN that have a VOTE (nobody, too) he is PICKED.", () -> {
            benchesOf("man 0;child 1 1;", 0, 1);
            benchesOf("man 0;" + SIX_CHILDREN, 0, 63);
            benchesOf("man 0;child 1 1;child 13 1;child 1 0;", 0, 1);
            benchesOf("man 0;child 13 1;child 1 0;child 1 1;child 1 1;", 0, 3);
            benchesOf("man 0;child 1 1;child 1 1;has 0 0;fears 1 0;", 0, 2);
            benchesOf("man 0;child 13 1;", 0, 0);
            benchesOf("man 0;", 0, 0);
            // Of the two one without the others, or both with one at most; of all 32 one picks nobody.
            benchesOf(county, 1, 2 + 1 + 3);
            benchesOf(county, 0, 32 - 6 - 1);
        });
        Edges.edge("FEWEST of a MAN: the smallest bench of CHILDREN that have a VOTE by which he is PICKED: of how many; which"
            + " (bits), of several the least.", () -> {
            fewestOf(county, 0, 1, 4);
            fewestOf(county, 1, 1, 1);
            fewestOf("man 0;" + SIX_CHILDREN, 0, 1, 1);
            fewestOf("man 0;child 1 1;", 0, 1, 1);
            fewestOf("man 0;child 1 0;child 13 1;child 1 1;child 1 1;has 0 0;fears 2 0;", 0, 1, 8);
            fewestOf("man 0;man 0;" + SIX_CHILDREN + "has 1 0;likes 5 0 1;", 1, 1, 32);
        });
    }

    private static void tradeOf(String county, int a, int b, int due) {
        dueOf("trade of " + a + " and " + b, county, Calls.withCounty(county).trade(0, a, b), due);
    }

    private static void gangOf(String county, int many, int which) {
        PointedBench x = Calls.withCounty(county);
        dueOf("how many of the gang", county, x.gang(0, false), many);
        dueOf("which of the gang", county, x.gang(0, true), which);
    }

    private static void tradeAndGangTerms() {
        Edges.edge("TRADE of two unlike MEN: the TRAIT the first one HAS and the other one does not, and the one that is the other"
            + " way about (10 times the first, and the other; of several the least) such that, if they HAVE these the other way"
            + " about, by a bench of all CHILDREN the first one is PICKED.", () -> {
            String county = "man 0;man 0;child 1 1;has 0 0;has 0 1;has 0 5;has 1 2;has 1 3;has 1 5;";
            // All alike: the least of both, and 0 is PICKED; 1 never is.
            tradeOf(county, 0, 1, 2);
            tradeOf(county, 1, 0, NONE);
            // For 3 alone; then with 1 alone; then 1 takes 0 or 1 for 2 or 3.
            tradeOf(county + "likes 0 2 1;likes 0 3 2;likes 0 1 1;", 0, 1, 2);
            tradeOf(county + "likes 0 3 9;likes 0 2 1;", 0, 1, 3);
            tradeOf(county + "fears 0 0;", 0, 1, 2);
            tradeOf(county + "fears 0 0;fears 0 2;", 0, 1, 3);
            tradeOf(county + "fears 0 1;fears 0 2;", 0, 1, 13);
            tradeOf(county + "likes 0 1 9;", 1, 0, 21);
            // There is nothing to give, or nothing to take.
            tradeOf("man 0;man 0;child 1 1;has 1 1;", 0, 1, NONE);
            tradeOf("man 0;man 0;child 1 1;has 0 1;", 0, 1, NONE);
            tradeOf("man 0;man 0;child 1 1;has 0 1;has 1 1;", 0, 1, NONE);
            tradeOf("man 0;man 0;child 1 1;has 0 5;has 1 4;", 0, 1, 54);
            tradeOf("man 0;man 0;child 1 1;has 0 5;has 1 0;", 0, 1, 50);
            tradeOf("man 0;man 0;child 1 1;has 0 0;has 1 5;", 0, 1, 5);
            // What both HAVE is not to be had.
            tradeOf("man 0;man 0;child 1 1;has 0 0;has 1 0;has 0 1;has 1 2;", 0, 1, 12);
            tradeOf("man 0;man 0;child 13 1;has 0 5;has 1 4;", 0, 1, NONE);
        });
        Edges.edge("GANG: the most CHILDREN that POINT to one MAN, VOTE or not: how many; which (bits), of several that of the"
            + " least MAN.", () -> {
            gangOf("", 0, 0);
            gangOf("man 0;", 0, 0);
            gangOf("child 1 1;", 0, 0);
            gangOf("man 0;child 1 1;has 0 0;fears 0 0;", 0, 0);
            gangOf("man 0;" + SIX_CHILDREN, 6, 63);
            gangOf("man 0;child 20 0;child 13 1;child 1 0;", 3, 7);
            String two = "man 0;man 0;child 1 1;child 20 0;has 1 0;likes 0 0 1;";
            gangOf(two, 1, 2);
            gangOf(two + "child 1 1;likes 2 0 1;", 2, 5);
            gangOf(two + "child 1 1;", 2, 6);
            gangOf("man 0;man 0;child 1 1;", 1, 1);
            // 6 is nobody, to whom all POINT, but no MAN.
            gangOf(SIX_MEN + "child 1 1;child 1 1;has 0 0;has 1 0;has 2 0;has 3 0;has 4 0;has 5 0;fears 0 0;fears 1 0;", 0, 0);
        });
    }

    private static void likedOf(String county, int man, long n, long d) {
        PointedBench x = Calls.withCounty(county);
        dueOf("liked, N, of " + man, county, x.liked(0, man, false), n);
        dueOf("liked, D, of " + man, county, x.liked(0, man, true), d);
    }

    private static void kindTerms() {
        Edges.edge("KINDEST: MEN by KINDNESS, the greatest first, of several the least: the k-th.", () -> {
            String county = "man 0;man 9;man 5;man 9;man 0;man 5;";
            PointedBench x = Calls.withCounty(county);
            int[] due = {1, 3, 2, 5, 0, 4, NONE};
            for (int k = 0; k < due.length; k++) {
                dueOf("kindest " + k, county, x.kindest(0, k), due[k]);
            }
        });
        Edges.edge("FREED by a MAN: CHILDREN (bits) whose fathers have a TERM above 0 and could get out, if he were the gaoler.",
            () -> {
                String county = "man 0;man 1;man 2;man 3;child 1 1;child 1 0;child 20 10;child 1 11;child 1 20;child 1 30;";
                int[] due = {0, 5, 29, 61};
                for (int man = 0; man < 4; man++) {
                    dueOf("freed by " + man, county, Calls.withCounty(county).freed(0, man), due[man]);
                }
                dueOf("freed", "man 9;", Calls.withCounty("man 9;").freed(0, 0), 0);
            });
        Edges.edge("LIKED, of a MAN: how much CHILDREN LIKE his TRAITS together in the mean (what they FEAR, too), a fraction in"
            + " least terms.", () -> {
            String county = "man 0;man 0;child 1 1;child 20 0;child 1 1;child 1 1;has 0 0;has 0 5;likes 0 0 9;likes 1 5 1;";
            likedOf(county, 0, 5, 2);
            likedOf(county, 1, 0, 1);
            likedOf(county + "fears 0 0;", 0, 5, 2);
            likedOf(county + "likes 2 1 9;likes 2 0 2;", 0, 3, 1);
            likedOf("man 0;child 1 1;child 1 1;child 1 1;has 0 0;likes 2 0 1;", 0, 1, 3);
        });
        Edges.edge("UNLIKE of two CHILDREN: of all TRAITS by how much one LIKES it more or less than the other one, together.", () -> {
            String county = "child 1 1;child 1 1;child 1 1;likes 0 0 9;likes 0 5 3;likes 1 5 7;likes 1 1 1;";
            int[][] due = {{0, 1, 14}, {1, 0, 14}, {0, 0, 0}, {0, 2, 12}, {2, 1, 8}, {2, 2, 0}};
            for (int[] row : due) {
                dueOf("unlike " + row[0] + " and " + row[1], county, Calls.withCounty(county).unlike(0, row[0], row[1]), row[2]);
            }
            String most = "child 1 1;child 1 1;likes 0 0 9;likes 0 1 9;likes 0 2 9;likes 1 3 9;likes 1 4 9;likes 1 5 9;";
            dueOf("the most", most, Calls.withCounty(most).unlike(0, 0, 1), 54);
            String six = SIX_CHILDREN + "likes 0 0 1;likes 1 0 2;likes 2 0 4;likes 3 0 8;likes 4 5 9;likes 5 0 9;";
            dueOf("of the first two", six, Calls.withCounty(six).unlike(0, 0, 1), 1);
            dueOf("of the last two", six, Calls.withCounty(six).unlike(0, 4, 5), 18);
        });
    }

    private static void bunOf(String county, int man, int many, int which) {
        PointedBench x = Calls.withCounty(county);
        dueOf("how many buns for " + man, county, x.bun(0, 0, man, false), many);
        dueOf("which bun for " + man, county, x.bun(0, 0, man, true), which);
    }

    private static void bunTerm() {
        Edges.edge("BUN of a CHILD, a MAN: the fewest by which it is to LIKE one TRAIT more (beyond 9, too), so that it POINTS to"
            + " him: how many (0: it does); which TRAIT, of several the least (if it does: TRAIT 0).", () -> {
            String two = "man 0;man 0;child 20 0;has 0 4;has 1 5;has 1 2;";
            bunOf(two, 0, 0, 0);
            bunOf(two, 1, 1, 2);
            bunOf(two + "likes 0 4 9;", 1, 10, 2);
            bunOf(two + "likes 0 5 1;", 0, 1, 4);
            bunOf(two + "likes 0 5 1;", 1, 0, 0);
            bunOf(two + "likes 0 5 9;likes 0 2 9;", 0, 18, 4);
            // By a TRAIT that both HAVE nothing is won.
            bunOf(two + "has 0 2;", 1, 1, 5);
            bunOf("man 0;man 0;child 1 1;has 0 1;has 1 1;", 1, NONE, NONE);
            bunOf("man 0;man 0;child 1 1;has 1 0;", 1, 1, 0);
            // Less is enough for one whom it LIKES already.
            bunOf("man 0;man 0;child 1 1;has 0 0;has 1 1;likes 0 0 5;likes 0 1 3;", 1, 3, 1);
            // Of the two others the one ahead is to be outdone.
            bunOf("man 0;man 0;man 0;child 1 1;has 0 0;has 1 1;has 2 2;likes 0 0 3;likes 0 1 7;", 2, 8, 2);
            bunOf("man 0;man 0;man 0;child 1 1;has 0 0;has 1 1;has 2 2;likes 0 0 7;likes 0 1 3;", 2, 8, 2);
            // By a TRAIT that one behind him HAS, too, as that one stays behind.
            bunOf("man 0;man 0;man 0;child 1 1;has 0 0;has 1 1;has 2 1;has 2 2;likes 0 0 5;likes 0 1 1;likes 0 2 2;", 2, 3, 1);
            bunOf("man 0;man 0;man 0;child 1 1;has 0 0;has 1 1;has 2 1;likes 0 0 5;", 1, 6, 1);
            // To be as good as the one ahead of him is not enough, as the one behind him it is.
            bunOf("man 0;man 0;man 0;child 1 1;has 0 0;has 1 1;has 2 2;likes 0 2 4;", 1, 4, 1);
            bunOf("man 0;man 0;man 0;child 1 1;has 0 0;has 1 1;has 2 2;likes 0 0 4;", 1, 5, 1);
            bunOf(SIX_MEN + "child 1 1;has 4 0;has 5 5;likes 0 0 2;", 5, 3, 5);
            bunOf(SIX_MEN + "child 1 1;has 4 0;has 5 5;likes 0 0 2;", 4, 0, 0);
            // One who is FEARED is not to be outdone.
            bunOf("man 0;man 0;child 1 1;has 0 0;has 1 1;likes 0 0 9;fears 0 0;", 1, 0, 0);
            bunOf("man 0;man 0;man 0;child 1 1;has 0 0;has 1 1;has 2 2;likes 0 0 9;fears 0 0;", 2, 1, 2);
        });
    }

    private static void wingsOf(String county, int many, int... due) {
        PointedBench x = Calls.withCounty(county);
        dueOf("wings", county, x.wings(0, NONE), many);
        for (int k = 0; k < due.length; k++) {
            dueOf("wing of " + k, county, x.wings(0, k), due[k]);
        }
    }

    private static void wingsTerm() {
        Edges.edge("WINGS: fathers whose TERM is above 0 are to be in wings, none in one whose CHILDREN FEAR the same TRAIT: the"
            + " fewest; in which, 0 the first, each is, the first row by numbers (6: not in).", () -> {
            wingsOf("", 0);
            wingsOf("child 1 0;child 20 0;fears 0 0;fears 1 0;", 0, 6, 6);
            wingsOf("child 20 1;", 1, 0);
            wingsOf(SIX_CHILDREN, 1, 0, 0, 0, 0, 0, 0);
            wingsOf(SIX_CHILDREN + "fears 0 5;fears 1 5;fears 2 5;fears 3 5;fears 4 5;fears 5 5;", 6, 0, 1, 2, 3, 4, 5);
            // The one who is out keeps nobody away.
            wingsOf("child 1 1;child 1 0;child 1 1;fears 0 0;fears 1 0;fears 1 1;fears 2 1;", 1, 0, 6, 0);
            wingsOf("child 1 1;child 1 1;child 1 1;fears 0 0;fears 1 0;fears 1 1;fears 2 1;", 2, 0, 1, 0);
            // Put each into the first wing he can be in, and there would be three.
            wingsOf("child 1 1;child 1 1;child 1 1;child 1 1;fears 0 0;fears 3 0;fears 1 1;fears 2 1;fears 1 2;fears 3 2;", 2,
                0, 0, 1, 1);
        });
    }

    private static void laterOf(String county, int n, int votes, int who) {
        PointedBench x = Calls.withCounty(county);
        dueOf("votes " + n + " years later", county, x.later(0, n, false), votes);
        dueOf("who " + n + " years later", county, x.later(0, n, true), who);
    }

    private static void laterTerm() {
        Edges.edge("LATER of n years, 0 .. 30 (nobody gets out but by TERM): CHILDREN that have a VOTE then (bits); who is PICKED"
            + " by a bench of all then.", () -> {
            // 0 is for MAN 1, for 2 years; 1 for MAN 1, for 12; 2 is 11, 3 is 13: both for MAN 0.
            String county = "man 9;man 0;child 0 3;child 0 30;child 11 30;child 13 30;has 1 0;likes 0 0 1;likes 1 0 1;";
            laterOf(county, 0, 7, 1);
            laterOf(county, 1, 7, 1);
            laterOf(county, 2, 3, 1);
            laterOf(county, 3, 2, 1);
            laterOf(county, 12, 2, 1);
            laterOf(county, 13, 0, 6);
            laterOf(county, 30, 0, 6);
            laterOf(county, 31, NONE, NONE);
            laterOf(county, -1, NONE, NONE);
            laterOf("man 0;man 0;child 0 1;child 0 2;has 1 0;likes 0 0 1;", 0, 3, 0);
            laterOf("man 0;man 0;child 0 1;child 0 2;has 1 0;likes 0 0 1;", 1, 2, 0);
            laterOf("", 0, 0, 6);
        });
    }

    private static void duelAndBest() {
        Edges.ofPromise(20);
        Edges.edge("NONE: they are not two,", () -> {
            duelOf(CYCLE, 0, 0, NONE);
            duelOf(CYCLE, 2, 2, NONE);
        });
        Edges.edge("or there is none such (of any).", () -> {
            PointedBench x = Calls.withCounty("man 0;child 1 1;");
            for (int man : NOBODY) {
                Calls.due("MEN 0 and " + man, x.duel(0, 0, man), NONE);
                Calls.due("MEN " + man + " and 0", x.duel(0, man, 0), NONE);
            }
            PointedBench y = Calls.withCounty(CYCLE);
            for (int k : NO_COUNTY) {
                Calls.due("COUNTY " + k, y.duel(k, 0, 1), NONE);
            }
        });
        Edges.ofPromise(21);
        Edges.edge("What 0: BEST (NONE), 1: SWEETEST, 2: RAREST, 3: TWINS, 4: GUARDS, how many, 5: who (bits), 6: LONGEST (0: no"
            + " CHILDREN), 10 + m: SCORE of a MAN.", () -> {
            int[] empty = {NONE, 0, 0, 0, 0, 0, 0};
            int[] cycle = {NONE, 0, 3, 0, 3, 7, 3};
            for (int what = 0; what < 7; what++) {
                bestOf("", what, empty[what]);
                bestOf(CYCLE, what, cycle[what]);
            }
            bestOf("man 0;", 6, 0);
            bestOf(CYCLE, 12, 3);
            bestOf(SIX_MEN, 15, 0);
        });
        Edges.edge("-2: there is none such (of either),", () -> {
            PointedBench x = Calls.withCounty(CYCLE);
            for (int what : new int[] {0, 1, 2, 3, 4, 5, 6, 10}) {
                for (int k : NO_COUNTY) {
                    Calls.due("COUNTY " + k + ", what " + what, x.best(k, what), -2);
                }
            }
            for (int man : new int[] {3, 4, 5}) {
                Calls.due("MAN " + man, x.best(0, 10 + man), -2);
            }
            bestOf("", 10, -2);
        });
        Edges.edge("or for another what.", () -> {
            PointedBench x = Calls.withCounty(SIX_MEN + SIX_CHILDREN);
            for (int what : new int[] {7, 8, 9, 16, 17, 20, 100, -1, -2, MIN, MAX}) {
                Calls.due("what " + what, x.best(0, what), -2);
            }
        });
    }

    private static void ofOneMan() {
        PointedBench x = Calls.withCounty(ONE_OF_EACH);
        Edges.ofPromise(22);
        Edges.edge("NONE: there is none such (of either).", () -> {
            for (int man : NOBODY) {
                Calls.due("MAN " + man, x.benches(0, man), NONE);
            }
            for (int k : NO_COUNTY) {
                Calls.due("COUNTY " + k, x.benches(k, 0), NONE);
            }
            Calls.due("no MEN", Calls.withCounty("child 1 1;").benches(0, 0), NONE);
        });
        Edges.ofPromise(26);
        Edges.edge("NONE: there is none such (of either).", () -> {
            for (int man : NOBODY) {
                Calls.due("MAN " + man, x.freed(0, man), NONE);
            }
            for (int k : NO_COUNTY) {
                Calls.due("COUNTY " + k, x.freed(k, 0), NONE);
            }
        });
        Edges.ofPromise(27);
        Edges.edge("NONE: no CHILDREN,", () -> {
            likedOf("man 0;", 0, NONE, NONE);
            likedOf("man 0;has 0 0;", 0, NONE, NONE);
        });
        Edges.edge("or there is none such (of either).", () -> {
            for (int man : NOBODY) {
                likedOf(ONE_OF_EACH, man, NONE, NONE);
            }
            for (int k : NO_COUNTY) {
                Calls.due("COUNTY " + k, x.liked(k, 0, false), NONE);
                Calls.due("under, COUNTY " + k, x.liked(k, 0, true), NONE);
            }
        });
        Edges.ofPromise(35);
        Edges.edge("NONE: by none,", () -> {
            fewestOf("man 0;man 0;child 1 1;", 1, NONE, NONE);
            fewestOf("man 0;child 13 1;child 1 0;", 0, NONE, NONE);
            fewestOf("man 0;", 0, NONE, NONE);
        });
        Edges.edge("or there is none such (of either).", () -> {
            for (int man : NOBODY) {
                fewestOf(ONE_OF_EACH, man, NONE, NONE);
            }
            fewestOf("child 1 1;", 6, NONE, NONE);
            for (int k : NO_COUNTY) {
                Calls.due("COUNTY " + k, x.fewest(k, 0, false), NONE);
                Calls.due("which, COUNTY " + k, x.fewest(k, 0, true), NONE);
            }
        });
    }

    private static void ofTwoMen() {
        String two = "man 0;man 0;child 1 1;has 0 5;has 1 4;";
        Edges.ofPromise(23);
        Edges.edge("NONE: by none,", () -> {
            tradeOf(two, 1, 0, NONE);
            tradeOf("man 0;man 0;", 0, 1, NONE);
        });
        Edges.edge("they are not two,", () -> {
            tradeOf(two, 0, 0, NONE);
            tradeOf(two, 1, 1, NONE);
        });
        Edges.edge("or there is none such (of any).", () -> {
            PointedBench x = Calls.withCounty("man 0;child 1 1;has 0 0;");
            for (int man : NOBODY) {
                Calls.due("MEN 0 and " + man, x.trade(0, 0, man), NONE);
                Calls.due("MEN " + man + " and 0", x.trade(0, man, 0), NONE);
            }
            PointedBench y = Calls.withCounty(two);
            Calls.due("COUNTY 0", y.trade(0, 0, 1), 54);
            for (int k : NO_COUNTY) {
                Calls.due("COUNTY " + k, y.trade(k, 0, 1), NONE);
            }
        });
    }

    private static void ofRows() {
        PointedBench x = Calls.withCounty(ONE_OF_EACH);
        int[] beyond = {1, 2, 6, 7, -1, -2, MIN, MAX};
        Edges.ofPromise(25);
        Edges.edge("NONE: not so many,", () -> {
            for (int k : beyond) {
                Calls.due("the " + k + "th", x.kindest(0, k), NONE);
            }
            Calls.due("of none", Calls.withCounty("").kindest(0, 0), NONE);
            Calls.due("the last of six", Calls.withCounty(SIX_MEN).kindest(0, 5), 5);
            Calls.due("beyond six", Calls.withCounty(SIX_MEN).kindest(0, 6), NONE);
        });
        Edges.edge("or there is none such.", () -> {
            for (int k : NO_COUNTY) {
                Calls.due("COUNTY " + k, x.kindest(k, 0), NONE);
            }
        });
        Edges.ofPromise(29);
        Edges.edge("NONE: not so many,", () -> {
            for (int k : beyond) {
                Calls.due("the " + k + "th", x.runoff(0, k), NONE);
            }
            Calls.due("of none", Calls.withCounty("").runoff(0, 0), NONE);
            Calls.due("the last of six", Calls.withCounty(SIX_MEN).runoff(0, 5), 0);
            Calls.due("beyond six", Calls.withCounty(SIX_MEN).runoff(0, 6), NONE);
        });
        Edges.edge("or there is none such.", () -> {
            for (int k : NO_COUNTY) {
                Calls.due("COUNTY " + k, x.runoff(k, 0), NONE);
            }
        });
        Edges.ofPromise(30);
        Edges.edge("NONE: there is no such row,", () -> {
            agendaOf("man 0;man 0;child 1 1;has 1 0;likes 0 0 1;", 0);
            // 0 is ahead of nobody, and behind 5 wherever he stands.
            String last = SIX_MEN + "child 1 1;has 5 5;likes 0 5 1;";
            agendaOf(last, 0);
            agendaOf(last, 5, 0, 1, 2, 3, 4, 5);
        });
        Edges.edge("not so many,", () -> {
            for (int k : beyond) {
                Calls.due("the " + k + "th", x.agenda(0, 0, k), NONE);
            }
            Calls.due("the last of six", Calls.withCounty(SIX_MEN).agenda(0, 0, 5), 5);
            Calls.due("beyond six", Calls.withCounty(SIX_MEN).agenda(0, 0, 6), NONE);
        });
        Edges.edge("or there is none such (of either).", () -> {
            for (int man : NOBODY) {
                Calls.due("MAN " + man, x.agenda(0, man, 0), NONE);
            }
            for (int k : NO_COUNTY) {
                Calls.due("COUNTY " + k, x.agenda(k, 0, 0), NONE);
            }
        });
    }

    private static void ofChildren() {
        PointedBench x = Calls.withCounty(ONE_OF_EACH);
        Edges.ofPromise(28);
        Edges.edge("NONE: there is none such (of any).", () -> {
            for (int child : NOBODY) {
                Calls.due("CHILDREN 0 and " + child, x.unlike(0, 0, child), NONE);
                Calls.due("CHILDREN " + child + " and 0", x.unlike(0, child, 0), NONE);
            }
            for (int k : NO_COUNTY) {
                Calls.due("COUNTY " + k, x.unlike(k, 0, 0), NONE);
            }
            Calls.due("one and itself", x.unlike(0, 0, 0), 0);
        });
        // By a lie to 1 the CHILD would have him PICKED; with a VOTE.
        String liar = "man 0;man 0;man 0;child %s;child 1 1;child 1 1;has 0 0;has 1 1;has 2 2;likes 0 2 2;likes 0 1 1;"
            + "fears 0 0;likes 2 1 1;";
        Edges.ofPromise(31);
        Edges.edge("NONE: none,", () -> {
            liesOf(liar.replace("%s", "12 1"), 0, 1);
            liesOf(ONE_OF_EACH, 0, NONE);
            liesOf(liar.replace("%s", "12 1"), 1, NONE);
        });
        Edges.edge("it has no VOTE,", () -> {
            liesOf(liar.replace("%s", "13 1"), 0, NONE);
            liesOf(liar.replace("%s", "12 0"), 0, NONE);
        });
        Edges.edge("or there is none such (of either).", () -> {
            for (int child : NOBODY) {
                liesOf(ONE_OF_EACH, child, NONE);
            }
            PointedBench y = Calls.withCounty(liar.replace("%s", "12 1"));
            for (int k : NO_COUNTY) {
                Calls.due("COUNTY " + k, y.lies(k, 0), NONE);
            }
        });
        Edges.ofPromise(32);
        Edges.edge("NONE: by none,", () -> {
            bunOf("man 0;child 1 1;has 0 0;fears 0 0;", 0, NONE, NONE);
            bunOf("man 0;man 0;child 1 1;", 1, NONE, NONE);
            bunOf("man 0;man 0;child 1 1;has 1 5;fears 0 5;", 1, NONE, NONE);
        });
        Edges.edge("or there is none such (of any).", () -> {
            for (int who : NOBODY) {
                Calls.due("CHILD " + who, x.bun(0, who, 0, false), NONE);
                Calls.due("MAN " + who, x.bun(0, 0, who, false), NONE);
                Calls.due("which, CHILD " + who, x.bun(0, who, 0, true), NONE);
                Calls.due("which, MAN " + who, x.bun(0, 0, who, true), NONE);
            }
            for (int k : NO_COUNTY) {
                Calls.due("COUNTY " + k, x.bun(k, 0, 0, false), NONE);
                Calls.due("which, COUNTY " + k, x.bun(k, 0, 0, true), NONE);
            }
        });
        Edges.ofPromise(33);
        Edges.edge("WINGS: how many (k NONE), or of CHILD k.", () -> wingsOf(ONE_OF_EACH, 1, 0));
        Edges.edge("NONE: there is none such (of either).", () -> {
            for (int child : new int[] {1, 5, 6, 7, -2, MIN, MAX}) {
                Calls.due("CHILD " + child, x.wings(0, child), NONE);
            }
            for (int k : NO_COUNTY) {
                Calls.due("COUNTY " + k, x.wings(k, 0), NONE);
                Calls.due("how many, COUNTY " + k, x.wings(k, NONE), NONE);
            }
        });
    }

    private static void ofYears() {
        PointedBench x = Calls.withCounty(ONE_OF_EACH);
        Edges.ofPromise(24);
        Edges.edge("NONE: there is none such.", () -> {
            for (int k : NO_COUNTY) {
                Calls.due("COUNTY " + k, x.gang(k, false), NONE);
                Calls.due("which, COUNTY " + k, x.gang(k, true), NONE);
            }
        });
        Edges.ofPromise(34);
        Edges.edge("LATER of n: CHILDREN (bits), or (who) who (6: nobody).", () -> {
            laterOf(ONE_OF_EACH, 0, 1, 0);
            laterOf(ONE_OF_EACH, 1, 0, 6);
            laterOf("child 1 1;", 0, 1, 6);
            laterOf(SIX_CHILDREN + "man 0;", 0, 63, 0);
        });
        Edges.edge("NONE: another n,", () -> {
            for (int n : new int[] {31, 32, 100, -1, -2, MIN, MAX}) {
                laterOf(ONE_OF_EACH, n, NONE, NONE);
            }
        });
        Edges.edge("or there is none such.", () -> {
            for (int k : NO_COUNTY) {
                Calls.due("COUNTY " + k, x.later(k, 0, false), NONE);
                Calls.due("who, COUNTY " + k, x.later(k, 0, true), NONE);
            }
        });
    }
}
