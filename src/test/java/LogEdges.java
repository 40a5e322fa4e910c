/** Boundary cases of LOGS: Term 4, the end of 6, Promises 18, 37, 38. */
final class LogEdges {
    private static final int NONE = PointedBench.NONE;
    private static final int MIN = Integer.MIN_VALUE;
    private static final int MAX = Integer.MAX_VALUE;
    private static final int[] NO_LOG = {1, 2, -1, MIN, MAX};

    /** Nothing FITS: none are LIKED more than none. */
    private static final String NEVER = "prefers 0 0;";

    /** Each TRAIT is LIKED, by 1 or 2. */
    private static final String ALL_LIKED = "prefers 1 0;prefers 3 1;prefers 7 3;prefers 15 7;prefers 31 15;prefers 63 31;";

    private LogEdges() {
    }

    static void tell() {
        fitTerms();
        askTerm();
        oddsAndLowTerms();
        fits();
        odds();
        low();
    }

    private static void fitsOf(String log, int what, int due) {
        PointedBench x = Calls.withLog(log);
        Calls.due("fits, what " + what + ", of " + log, x.fits(0, what), due);
        Calls.due("once more, fits, what " + what + ", of " + log, x.fits(0, what), due);
    }

    private static void oddsOf(String log, int a, int b, long n, long d) {
        PointedBench x = Calls.withLog(log);
        Calls.due("odds, N, of " + a + " and " + b + " by " + log, x.odds(0, a, b, false), n);
        Calls.due("odds, D, of " + a + " and " + b + " by " + log, x.odds(0, a, b, true), d);
    }

    private static void lowOf(String log, int low, int high) {
        PointedBench x = Calls.withLog(log);
        Calls.due("low of " + log, x.low(0, false), low);
        Calls.due("high of " + log, x.low(0, true), high);
    }

    private static void fitTerms() {
        Edges.ofTerm(4);
        Edges.edge("how much a CHILD LIKES each TRAIT, 0 .. 2, as a number: 243 times that of TRAIT 0, 81 times that of 1, and so"
            + " on,", () -> {
            PointedBench x = Calls.withLog("");
            for (int number = 0; number < 729; number++) {
                Calls.due("number " + number, x.fits(0, 10 + number), number);
            }
            Calls.due("no more than 728", x.fits(0, 739), -2);
            // One TRAIT by 1, all others by 0: as all of them are LIKED by no more than it.
            int weight = 243;
            for (int trait = 0; trait < 6; trait++) {
                int one = 1 << trait;
                String others = "not " + (63 - one) + " 0;";
                String log = others + "prefers " + one + " 0;";
                fitsOf(log, 0, 2);
                fitsOf(log, 10, weight);
                fitsOf(log, 11, 2 * weight);
                weight /= 3;
            }
        });
        Edges.edge("FIT, if of each FACT the TRAITS first told of are LIKED more together than those told of then (PREFERRED), or"
            + " not more (not):", () -> {
            // Of 9 LIKINGS of two TRAITS 3 are for the first, 3 for the other, 3 are alike.
            fitsOf("prefers 1 2;", 0, 243);
            fitsOf("not 1 2;", 0, 486);
            fitsOf("not 1 2;not 2 1;", 0, 243);
            fitsOf("prefers 1 2;not 1 2;", 0, 0);
            fitsOf("prefers 1 1;", 0, 0);
            fitsOf("not 1 1;", 0, 729);
            fitsOf(NEVER, 0, 0);
            fitsOf("not 0 0;", 0, 729);
            fitsOf("prefers 63 0;", 0, 728);
            fitsOf("not 63 0;", 0, 1);
            fitsOf("not 0 63;", 0, 729);
            fitsOf("prefers 0 63;", 0, 0);
            // 1 and 2 together are more than 0 of TRAIT 0 in 8 of 9 ways, than 1 in 6, than 2 in 3.
            fitsOf("prefers 6 1;", 0, (8 + 6 + 3) * 27);
            // Each one counts, the last of eight, too.
            fitsOf("not 0 0;".repeat(7) + "not 63 0;", 0, 1);
        });
        Edges.edge("how many; the k-th, rising;", () -> {
            fitsOf("not 63 0;", 0, 1);
            fitsOf("not 63 0;", 10, 0);
            fitsOf("not 63 0;", 11, -2);
            fitsOf("prefers 63 0;", 10, 1);
            fitsOf("prefers 63 0;", 737, 728);
            fitsOf("prefers 63 0;", 738, -2);
            fitsOf("prefers 1 62;", 10, 243);
            fitsOf("prefers 1 62;", 11, 486);
            fitsOf("prefers 1 62;", 12, 487);
            fitsOf("prefers 1 62;", 13, 489);
        });
        Edges.edge("SURE of a TRAIT: how much, if it is one in all that FIT;", () -> {
            for (int trait = 0; trait < 6; trait++) {
                fitsOf("", 2 + trait, NONE);
                fitsOf("not 63 0;", 2 + trait, 0);
                fitsOf(NEVER, 2 + trait, NONE);
                int one = 1 << trait;
                fitsOf("prefers " + one + " 0;", 2 + trait, NONE);
                // Above another one that is above 0.
                int other = 1 << (trait + 1) % 6;
                fitsOf("prefers " + one + " " + other + ";prefers " + other + " 0;", 2 + trait, 2);
                fitsOf("prefers " + one + " " + other + ";prefers " + other + " 0;", 2 + (trait + 1) % 6, 1);
                fitsOf("prefers " + one + " " + other + ";prefers " + other + " 0;", 2 + (trait + 2) % 6, NONE);
            }
        });
    }

    private static void askTerm() {
        Edges.edge("ASK: the two unlike TRAITS (10 times the first one, and the other one) such that of all that FIT the greater"
            + " number, the first one being LIKED more than the other one or not, is least, of several the least.", () -> {
            fitsOf("", 1, 1);
            fitsOf("not 63 0;", 1, 1);
            fitsOf(NEVER, 1, NONE);
            // 0 above 1: 3 of 3 by 01, none of 3 by 10; 0 above 2: 0 is LIKED by 1 (one way) or 2 (two ways), 2 by 0 .. 2:
            // 1 + 4 of 9, so 5 of 9; 1 above 2: 1 is LIKED by 0 (two ways) or 1 (one way): 1 of 9; 2 above 0: 2 - 1 more
            // than 1 (one way): 1 of 9; 2 above 1: 2 + 2 + 1 of 9; so 5 of 9 by 02 first.
            fitsOf("prefers 1 2;", 1, 2);
            // 0 and 1 are known: 2 against 0 by 0: 2 of 3 are more.
            fitsOf("not 3 0;", 1, 20);
            // All but 5 and 4 are 0: 4 above 5 in 3 of 9, above 0 in 6 of 9.
            fitsOf("not 15 0;", 1, 40);
            // All but 5: it is above 0 by 2 of 3; nothing else is ever more.
            fitsOf("not 31 0;", 1, 50);
            // 0 alone: above the others by 2 of 3.
            fitsOf("not 62 0;", 1, 1);
            // Each two: the first one is 1 or 2, the other one 0, 1 or 2, so by 3 of 6; the rest are 0.
            for (int both = 0; both < 36; both++) {
                int first = both / 6;
                int other = both % 6;
                if (first != other) {
                    int rest = 63 - (1 << first) - (1 << other);
                    fitsOf("not " + rest + " 0;prefers " + (1 << first) + " 0;", 1, 10 * first + other);
                }
            }
        });
    }

    private static void oddsAndLowTerms() {
        Edges.ofTerm(6);
        Edges.edge("By a LOG: ODDS of two numbers of TRAITS (bits): all that FIT being alike, how likely the first ones are LIKED"
            + " more together than the other ones, a fraction in least terms;", () -> {
            oddsOf("", 0, 0, 0, 1);
            oddsOf("", 63, 63, 0, 1);
            oddsOf("", 63, 0, 728, 729);
            oddsOf("", 0, 63, 0, 1);
            oddsOf("", 1, 2, 1, 3);
            oddsOf("", 32, 0, 2, 3);
            oddsOf("not 63 0;", 63, 0, 0, 1);
            oddsOf("prefers 1 2;", 1, 2, 1, 1);
            oddsOf("prefers 1 2;", 1, 4, 5, 9);
        });
        Edges.edge("LOW, HIGH: how much all TRAITS are LIKED together, of all that FIT, at least, at most.", () -> {
            lowOf("", 0, 12);
            lowOf("not 63 0;", 0, 0);
            lowOf("prefers 63 0;", 1, 12);
            lowOf("prefers 1 62;", 1, 3);
            lowOf(ALL_LIKED, 6, 12);
            lowOf("prefers 1 2;prefers 2 0;not 60 0;", 3, 3);
            // The less 0 is LIKED, the more the others are to be; then the more they can be.
            lowOf("prefers 3 4;prefers 9 16;prefers 4 0;prefers 16 0;", 4, 12);
            lowOf("not 3 8;not 5 16;", 0, 10);
        });
    }

    private static void fits() {
        Edges.ofPromise(18);
        Edges.edge("What 0: how many FIT, 1: ASK (NONE: nothing FITS), 2 + t: SURE of a TRAIT (NONE: not one), 10 + k: the k-th.",
            () -> {
                int[] all = {729, 1, NONE, NONE, NONE, NONE, NONE, NONE};
                int[] one = {1, 1, 0, 0, 0, 0, 0, 0};
                int[] none = {0, NONE, NONE, NONE, NONE, NONE, NONE, NONE};
                for (int what = 0; what < 8; what++) {
                    fitsOf("", what, all[what]);
                    fitsOf("not 63 0;", what, one[what]);
                    fitsOf(NEVER, what, none[what]);
                }
                fitsOf("", 10, 0);
                fitsOf("", 738, 728);
            });
        Edges.edge("-2: there is none such (of either),", () -> {
            PointedBench x = Calls.withLog("");
            for (int what : new int[] {0, 1, 2, 7, 10}) {
                for (int k : NO_LOG) {
                    Calls.due("LOG " + k + ", what " + what, x.fits(k, what), -2);
                }
            }
            fitsOf("", 739, -2);
            fitsOf("", MAX, -2);
            fitsOf("not 63 0;", 11, -2);
            fitsOf(NEVER, 10, -2);
        });
        Edges.edge("or for another what.", () -> {
            for (int what : new int[] {8, 9, -1, -2, -10, MIN}) {
                fitsOf("", what, -2);
                fitsOf(NEVER, what, -2);
            }
        });
    }

    private static void odds() {
        Edges.ofPromise(37);
        Edges.edge("NONE: nothing FITS,", () -> {
            oddsOf(NEVER, 1, 2, NONE, NONE);
            oddsOf(NEVER, 0, 0, NONE, NONE);
        });
        Edges.edge("others than bits of 0 .. 63,", () -> {
            for (int wrong : new int[] {64, 65, 128, -1, -2, MIN, MAX}) {
                oddsOf("", wrong, 0, NONE, NONE);
                oddsOf("", 0, wrong, NONE, NONE);
                oddsOf("", wrong, 63, NONE, NONE);
                oddsOf("", 63, wrong, NONE, NONE);
            }
            oddsOf("", 63, 62, 2, 3);
        });
        Edges.edge("or there is none such.", () -> {
            PointedBench x = Calls.withLog("");
            for (int k : NO_LOG) {
                Calls.due("LOG " + k, x.odds(k, 1, 2, false), NONE);
                Calls.due("under, LOG " + k, x.odds(k, 1, 2, true), NONE);
            }
            Calls.due("no LOGS", new PointedBench().odds(0, 1, 2, false), NONE);
        });
    }

    private static void low() {
        Edges.ofPromise(38);
        Edges.edge("NONE: nothing FITS,", () -> {
            lowOf(NEVER, NONE, NONE);
            lowOf("prefers 0 63;", NONE, NONE);
        });
        Edges.edge("or there is none such.", () -> {
            PointedBench x = Calls.withLog("");
            for (int k : NO_LOG) {
                Calls.due("LOG " + k, x.low(k, false), NONE);
                Calls.due("high, LOG " + k, x.low(k, true), NONE);
            }
            Calls.due("no LOGS", new PointedBench().low(0, false), NONE);
        });
    }
}
