/** Boundary cases of what is to be shown, of benches, RIVALS and QUIET: Term 3, Promises 11 to 16. */
final class BenchEdges {
    private static final int NONE = PointedBench.NONE;
    private static final int MIN = Integer.MIN_VALUE;
    private static final int MAX = Integer.MAX_VALUE;
    private static final int[] NO_COUNTY = {1, 2, -1, MIN, MAX};

    private BenchEdges() {
    }

    static void tell() {
        terms();
        rivalsTerm();
        quietTerm();
        show();
        bench();
        power();
        ban();
        rivals();
        quiet();
    }

    private static void fraction(String call, long n, long d, long dueN, long dueD) {
        Calls.due(call + ", N", n, dueN);
        Calls.due(call + ", D", d, dueD);
    }

    private static void shown(String county, int man, int many, int which) {
        PointedBench x = Calls.withCounty(county);
        Calls.due("how many " + man + " shows in " + county, x.show(0, man, false), many);
        Calls.due("which " + man + " shows in " + county, x.show(0, man, true), which);
    }

    private static void benchOf(String county, int man, int many, int which) {
        PointedBench x = Calls.withCounty(county);
        Calls.due("how many of the bench of " + man + " in " + county, x.bench(0, man, false), many);
        Calls.due("which of the bench of " + man + " in " + county, x.bench(0, man, true), which);
    }

    private static void banned(String county, int trait, int many) {
        PointedBench x = Calls.withCounty(county);
        Calls.due("the TRAIT banned in " + county, x.ban(0, false), trait);
        Calls.due("how many by the ban in " + county, x.ban(0, true), many);
    }

    private static void powerOf(String county, int child, long n, long d) {
        PointedBench x = Calls.withCounty(county);
        fraction("power of " + child + " in " + county, x.power(0, child, false), x.power(0, child, true), n, d);
    }

    private static void terms() {
        Edges.ofTerm(3);
        Edges.edge("SHOW of a MAN: the fewest TRAITS he is to HAVE besides his own, so that by a bench of all CHILDREN he is"
            + " PICKED: how many; which (bits), of several the least.", () -> {
            String two = "man 0;man 0;child 1 1;has 0 0;likes 0 0 5;";
            shown(two, 0, 0, 0);
            // 1 and 3 would do alike; two together, of lesser bits, are not fewer than one alone.
            shown(two + "likes 0 1 6;likes 0 3 6;", 1, 1, 2);
            shown(two + "likes 0 1 3;likes 0 2 3;likes 0 5 6;", 1, 1, 32);
            // By as much as the first one he is not PICKED, but the first one is.
            shown(two + "likes 0 1 5;likes 0 2 1;", 1, 2, 3);
            // All besides his own, of which there are none.
            String all = "man 0;man 0;child 1 1;likes 0 0 1;likes 0 1 1;likes 0 2 1;likes 0 3 1;likes 0 4 1;likes 0 5 1;"
                + "has 1 0;has 1 1;has 1 2;has 1 3;has 1 4;has 1 5;";
            shown(all, 0, 6, 63);
            shown(all + "has 0 5;", 0, 5, 31);
            shown(all, 1, 0, 0);
        });
        Edges.edge("BENCH of a MAN: the greatest bench by which he is PICKED: of how many CHILDREN that have a VOTE; which"
            + " (bits; no others), of several the least.", () -> {
            // 0 and 1 POINT to 1; 2, 3 and 4 to 0; 5 to 1, but has no VOTE.
            String county = "man 0;man 0;" + "child 1 1;".repeat(5) + "child 13 1;has 1 0;likes 0 0 1;likes 1 0 1;likes 5 0 1;";
            benchOf(county, 0, 5, 31);
            benchOf(county, 1, 3, 7);
            benchOf("man 0;man 0;" + "child 1 1;".repeat(5) + "has 1 0;likes 2 0 1;likes 3 0 1;likes 4 0 1;", 0, 4, 15);
            benchOf("man 0;child 1 1;", 0, 1, 1);
            benchOf("man 0;child 1 1;child 13 1;child 1 1;", 0, 2, 5);
            // Who has a VOTE and POINTS to nobody is of it, too.
            benchOf("man 0;child 1 1;child 1 1;child 1 0;has 0 0;fears 1 0;", 0, 2, 3);
            benchOf("man 0;" + "child 1 1;".repeat(6), 0, 6, 63);
        });
        Edges.edge("POWER of a CHILD that has a VOTE: all benches of the others that have one being alike: how likely it is that"
            + " by that bench and this CHILD another MAN (or nobody) is PICKED than by it alone, a fraction in least terms.", () -> {
            powerOf("man 0;child 1 1;", 0, 1, 1);
            powerOf("child 1 1;", 0, 0, 1);
            powerOf("man 0;child 1 1;child 1 1;child 1 1;", 0, 1, 4);
            powerOf("man 0;child 1 1;child 13 1;child 1 0;child 1 1;child 1 1;", 4, 1, 4);
            powerOf("man 0;" + "child 1 1;".repeat(6), 5, 1, 32);
            powerOf("man 0;child 13 1;child 1 1;child 1 1;", 2, 1, 2);
            powerOf("man 0;child 1 1;child 1 1;has 0 0;fears 1 0;", 1, 0, 1);
            // 0 POINTS to 1, 1 and 2 to 0: it decides ahead of nobody alone, as the first goes ahead of one as good.
            String two = "man 0;man 0;child 1 1;child 1 1;child 1 1;has 1 0;likes 0 0 1;";
            powerOf(two, 0, 1, 4);
            // 1 decides ahead of nobody and of 0 alone: 2 of 4.
            powerOf(two, 1, 1, 2);
        });
        Edges.edge("BAN: the TRAIT such that, if no MAN HAS it, most CHILDREN POINT to another MAN (or to nobody) than else, of"
            + " several the least; how many.", () -> {
            String two = "man 0;man 0;child 1 1;child 20 0;child 1 1;has 1 2;has 1 4;likes 0 2 1;likes 1 4 1;";
            banned(two, 2, 1);
            banned(two + "likes 2 4 1;", 4, 2);
            banned("man 0;has 0 3;child 1 1;", 0, 0);
            banned("", 0, 0);
            banned("man 0;".repeat(6) + "child 1 1;has 5 5;likes 0 5 1;", 5, 1);
            banned("man 0;has 0 5;child 1 1;fears 0 5;", 5, 1);
            banned("man 0;man 0;" + "child 1 1;".repeat(6) + "has 0 5;likes 0 5 1;has 1 4;likes 0 4 2;likes 1 4 1;likes 2 4 1;"
                + "likes 3 4 1;likes 4 4 1;likes 5 4 1;", 4, 6);
        });
    }

    private static void rivalsOf(String county, int a, int b, int n, int much, int first) {
        PointedBench x = Calls.withCounty(county);
        String call = "of " + a + " and " + b + ", " + n + " times in " + county;
        Calls.due("how much " + call, x.rivals(0, a, b, n, false), much);
        Calls.due("what first " + call, x.rivals(0, a, b, n, true), first);
    }

    private static void rivalsTerm() {
        // MAN 1 HAS 0, LIKED by 1; 1 is LIKED by 2. As good as the other one, 0 goes ahead.
        String county = "man 0;man 0;child 1 1;has 1 0;likes 0 0 1;likes 0 1 2;";
        Edges.edge("RIVALS of two unlike MEN, n, 0 .. 4: they by turns, the first one first, n times in all,", () -> {
            rivalsOf(county, 0, 1, 0, -1, NONE);
            rivalsOf(county, 0, 1, 1, 1, 0);
            rivalsOf(county, 0, 1, 2, -1, 0);
            rivalsOf(county, 0, 1, 3, 1, 0);
            rivalsOf(county, 0, 1, 4, 1, 0);
            rivalsOf(county, 1, 0, 0, 1, NONE);
            rivalsOf(county, 1, 0, 1, 1, 1);
            rivalsOf(county, 1, 0, 2, 1, 1);
            rivalsOf(county, 0, 1, 5, -9, -9);
            rivalsOf(county, 0, 1, -1, -9, -9);
        });
        Edges.edge("show a TRAIT they do not HAVE, or nothing:", () -> {
            // The second one is FEARED as soon as he shows anything: he shows nothing.
            String feared = "man 0;man 0;child 1 1;likes 0 5 9;has 1 5;fears 0 0;fears 0 1;fears 0 2;fears 0 3;fears 0 4;";
            rivalsOf(feared, 1, 0, 1, 1, 6);
            rivalsOf(feared, 1, 0, 2, -1, 0);
            rivalsOf(feared, 0, 1, 2, 1, 5);
            // He HAS all.
            String all = "man 0;man 0;child 1 1;has 1 0;has 1 1;has 1 2;has 1 3;has 1 4;has 1 5;likes 0 0 1;";
            rivalsOf(all, 1, 0, 1, 1, 6);
            rivalsOf(all, 1, 0, 4, -1, 6);
        });
        Edges.edge("it is 1 if then, by a bench of all CHILDREN, the first one is PICKED, -1 if the second one is, else 0:", () -> {
            rivalsOf("man 0;man 0;child 1 1;", 0, 1, 0, 1, NONE);
            rivalsOf("man 0;man 0;child 1 1;", 1, 0, 0, -1, NONE);
            rivalsOf("man 0;man 0;man 0;child 1 1;", 1, 2, 0, 0, NONE);
            rivalsOf("man 0;man 0;man 0;child 1 1;", 1, 2, 4, 0, 0);
            rivalsOf("man 0;man 0;", 0, 1, 4, 0, 0);
            rivalsOf("man 0;man 0;child 13 1;", 0, 1, 0, 0, NONE);
        });
        Edges.edge("how much, if the first wants it most, the second least;", BenchEdges::neither);
        Edges.edge("what the first shows first, the least that is best (6: nothing).", () -> {
            // 0 is PICKED whatever he shows but 0, 1, 2.
            String county2 = "man 0;man 0;child 1 1;fears 0 0;fears 0 1;fears 0 2;";
            rivalsOf(county2, 0, 1, 1, 1, 3);
            rivalsOf(county2 + "fears 0 3;fears 0 4;fears 0 5;", 0, 1, 1, 1, 6);
            // The second one can but lose himself: he does not.
            rivalsOf(county2, 1, 0, 2, -1, 0);
            // Both could be PICKED by 5: who shows it first makes the other one no better, as 0 goes ahead.
            rivalsOf("man 0;man 0;child 1 1;likes 0 5 1;", 1, 0, 2, -1, 0);
            rivalsOf("man 0;man 0;child 1 1;likes 0 5 1;", 1, 0, 1, 1, 5);
            rivalsOf("man 0;man 0;child 1 1;likes 0 5 1;", 0, 1, 2, 1, 5);
            // 2 is PICKED; by 2 the first one would be as good, and go ahead; the second one is FEARED.
            String third = "man 0;man 0;man 0;child 1 1;has 2 2;likes 0 2 5;has 1 4;fears 0 4;";
            rivalsOf(third, 0, 1, 1, 1, 2);
            rivalsOf(third, 0, 1, 2, 1, 2);
        });
    }

    /** Neither is PICKED, if both do their best: a third one is, by two CHILDREN who FEAR both. */
    private static void neither() {
        // 1 has two CHILDREN. 0 can win the first of them by 3 or 4 (who is as good goes ahead), but, if 1 may answer, only
        // by both of them: so he begins at once.
        String late = "man 0;man 0;man 0;" + "child 1 1;".repeat(4) + "has 0 1;has 1 3;has 2 5;likes 0 3 1;likes 0 4 1;fears 1 1;"
            + "fears 2 1;fears 3 1;fears 2 3;fears 3 3;";
        rivalsOf(late, 0, 1, 0, -1, NONE);
        rivalsOf(late, 0, 1, 1, 0, 3);
        rivalsOf(late, 0, 1, 2, -1, 0);
        rivalsOf(late, 0, 1, 3, 0, 3);
        rivalsOf(late, 0, 1, 4, 0, 3);
        // 1 has two CHILDREN, and goes ahead of 2; 0 wins the first of them by 0 alone.
        String early = "man 0;man 0;man 0;" + "child 1 1;".repeat(4) + "has 0 4;has 1 0;has 2 5;likes 0 0 5;fears 1 4;fears 2 0;"
            + "fears 2 4;fears 3 0;fears 3 4;";
        rivalsOf(early, 1, 0, 0, 1, NONE);
        rivalsOf(early, 1, 0, 1, 1, 1);
        rivalsOf(early, 1, 0, 2, 0, 1);
        rivalsOf(early, 0, 1, 1, 0, 0);
    }

    private static void quietOf(String county, int man, int n, long[] nobody, long[] all) {
        PointedBench x = Calls.withCounty(county);
        String call = " of " + man + ", " + n + " years in " + county;
        fraction("nobody" + call, x.quiet(0, man, n, false, false), x.quiet(0, man, n, false, true), nobody[0], nobody[1]);
        fraction("all" + call, x.quiet(0, man, n, true, false), x.quiet(0, man, n, true, true), all[0], all[1]);
    }

    private static long[] part(long n, long d) {
        return new long[] {n, d};
    }

    private static void quietTerm() {
        // Two fathers are in, one for a year; CHILDREN's AGES do not matter.
        String two = "man 0;man 9;man 5;man 2;child 1 1;child 20 30;child 1 0;";
        Edges.edge("QUIET of a MAN, n, 1 .. 3:", () -> {
            quietOf(two, 2, 1, part(1, 4), part(1, 4));
            quietOf(two, 2, 2, part(1, 4), part(9, 16));
            quietOf(two, 2, 3, part(1, 4), part(49, 64));
            quietOf(two, 2, 0, part(NONE, NONE), part(NONE, NONE));
            quietOf(two, 2, 4, part(NONE, NONE), part(NONE, NONE));
        });
        Edges.edge("each father whose TERM is above 0 as told (whatever goes by) escapes by as many of ten as the MAN's KINDNESS"
            + " is, by itself, those who have escaped being away:", () -> {
            quietOf(two, 3, 1, part(16, 25), part(1, 25));
            quietOf(two, 3, 2, part(16, 25), part(81, 625));
            quietOf(two, 3, 3, part(16, 25), part(3721, 15625));
            quietOf("man 5;child 1 1;", 0, 3, part(1, 2), part(7, 8));
            quietOf("man 5;child 1 0;", 0, 1, part(1, 1), part(1, 1));
            quietOf("man 5;", 0, 3, part(1, 1), part(1, 1));
        });
        Edges.edge("how likely nobody does in the first year; how likely all have at the end, fractions in least terms.", () -> {
            quietOf(two, 0, 1, part(1, 1), part(0, 1));
            quietOf(two, 0, 3, part(1, 1), part(0, 1));
            quietOf(two, 1, 1, part(1, 100), part(81, 100));
            quietOf(two, 1, 3, part(1, 100), part(998001, 1000000));
            // The greatest there are: of 10 to the 18th.
            String six = "man 9;man 1;" + "child 1 1;".repeat(6);
            quietOf(six, 0, 3, part(1, 1000000), part(994014980014994001L, 1000000000000000000L));
            quietOf(six, 1, 3, part(531441, 1000000), part(396109944105121L, 1000000000000000000L));
        });
    }

    private static void show() {
        Edges.ofPromise(11);
        Edges.edge("NONE: by none,", () -> {
            // FEARED for what he HAS; behind the first one at his best; nobody has a VOTE; nobody is there.
            shown("man 0;man 0;child 1 1;has 1 5;fears 0 5;", 1, NONE, NONE);
            shown("man 0;man 0;child 1 1;", 1, NONE, NONE);
            shown("man 0;child 13 1;child 1 0;", 0, NONE, NONE);
            shown("man 0;", 0, NONE, NONE);
        });
        Edges.edge("or there is none such (of either).", () -> {
            PointedBench x = Calls.withCounty("man 0;child 1 1;");
            for (int k : NO_COUNTY) {
                Calls.due("COUNTY " + k, x.show(k, 0, false), NONE);
                Calls.due("which, COUNTY " + k, x.show(k, 0, true), NONE);
            }
            for (int man : new int[] {1, 5, 6, -1, MIN, MAX}) {
                Calls.due("MAN " + man, x.show(0, man, false), NONE);
                Calls.due("which, MAN " + man, x.show(0, man, true), NONE);
            }
        });
    }

    private static void bench() {
        Edges.ofPromise(12);
        Edges.edge("NONE: by none,", () -> {
            benchOf("man 0;man 0;child 1 1;", 1, NONE, NONE);
            benchOf("man 0;child 13 1;", 0, NONE, NONE);
            benchOf("man 0;", 0, NONE, NONE);
        });
        Edges.edge("or there is none such (of either).", () -> {
            PointedBench x = Calls.withCounty("man 0;child 1 1;");
            for (int k : NO_COUNTY) {
                Calls.due("COUNTY " + k, x.bench(k, 0, false), NONE);
                Calls.due("which, COUNTY " + k, x.bench(k, 0, true), NONE);
            }
            for (int man : new int[] {1, 5, 6, -1, MIN, MAX}) {
                Calls.due("MAN " + man, x.bench(0, man, false), NONE);
                Calls.due("which, MAN " + man, x.bench(0, man, true), NONE);
            }
            // 6 is nobody, whom the bench of none would pick, but no MAN.
            Calls.due("nobody is no MAN", Calls.withCounty("child 1 1;").bench(0, 6, false), NONE);
        });
    }

    private static void power() {
        Edges.ofPromise(13);
        Edges.edge("NONE: it has no VOTE,", () -> {
            powerOf("man 0;child 13 1;child 1 1;", 0, NONE, NONE);
            powerOf("man 0;child 1 0;child 1 1;", 0, NONE, NONE);
        });
        Edges.edge("or there is none such (of either).", () -> {
            PointedBench x = Calls.withCounty("man 0;child 1 1;");
            for (int k : NO_COUNTY) {
                Calls.due("COUNTY " + k, x.power(k, 0, false), NONE);
                Calls.due("under, COUNTY " + k, x.power(k, 0, true), NONE);
            }
            for (int child : new int[] {1, 5, 6, 32, -1, MIN, MAX}) {
                Calls.due("CHILD " + child, x.power(0, child, false), NONE);
                Calls.due("under, CHILD " + child, x.power(0, child, true), NONE);
            }
        });
    }

    private static void ban() {
        Edges.ofPromise(14);
        Edges.edge("NONE: there is none such.", () -> {
            PointedBench x = Calls.withCounty("man 0;child 1 1;");
            for (int k : NO_COUNTY) {
                Calls.due("COUNTY " + k, x.ban(k, false), NONE);
                Calls.due("many, COUNTY " + k, x.ban(k, true), NONE);
            }
            Calls.due("COUNTY 0", x.ban(0, false), 0);
        });
    }

    private static void rivals() {
        String two = "man 0;man 0;child 1 1;";
        Edges.ofPromise(15);
        Edges.edge("RIVALS: how much, or (first) what is shown first (NONE: n is 0).", () -> {
            rivalsOf(two, 0, 1, 0, 1, NONE);
            rivalsOf(two, 0, 1, 1, 1, 0);
            rivalsOf(two, 0, 1, 4, 1, 0);
        });
        Edges.edge("-9: another n,", () -> {
            for (int n : new int[] {-1, -2, 5, 6, MIN, MAX}) {
                rivalsOf(two, 0, 1, n, -9, -9);
            }
        });
        Edges.edge("they are not two,", () -> {
            rivalsOf(two, 0, 0, 0, -9, -9);
            rivalsOf(two, 1, 1, 1, -9, -9);
        });
        Edges.edge("or there is none such (of any).", () -> {
            for (int man : new int[] {2, 5, 6, -1, MIN, MAX}) {
                rivalsOf(two, man, 0, 1, -9, -9);
                rivalsOf(two, 0, man, 1, -9, -9);
            }
            PointedBench x = Calls.withCounty(two);
            for (int k : NO_COUNTY) {
                Calls.due("COUNTY " + k, x.rivals(k, 0, 1, 0, false), -9);
                Calls.due("first, COUNTY " + k, x.rivals(k, 0, 1, 0, true), -9);
            }
        });
    }

    private static void quiet() {
        Edges.ofPromise(16);
        Edges.edge("QUIET, nobody in the first year, or (all) all at the end, N, or (under) D.", () -> {
            quietOf("man 3;child 1 1;", 0, 1, part(7, 10), part(3, 10));
            quietOf("man 3;child 1 1;", 0, 3, part(7, 10), part(657, 1000));
        });
        Edges.edge("NONE: another n,", () -> {
            for (int n : new int[] {0, 4, 5, -1, MIN, MAX}) {
                quietOf("man 5;child 1 1;", 0, n, part(NONE, NONE), part(NONE, NONE));
            }
        });
        Edges.edge("or there is none such (of either).", () -> {
            for (int man : new int[] {1, 5, 6, -1, MIN, MAX}) {
                quietOf("man 5;child 1 1;", man, 1, part(NONE, NONE), part(NONE, NONE));
            }
            PointedBench x = Calls.withCounty("man 5;child 1 1;");
            for (int k : NO_COUNTY) {
                for (int way = 0; way < 4; way++) {
                    Calls.due("COUNTY " + k, x.quiet(k, 0, 1, way > 1, way % 2 == 1), NONE);
                }
            }
        });
    }
}
