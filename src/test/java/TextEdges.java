/** Boundary cases of the tape, of texts and their FAULTS, of what was told, of images: Term 1, Promises 1 to 7, 17, 39 to 41. */
final class TextEdges {
    private static final int NONE = PointedBench.NONE;
    private static final int MIN = Integer.MIN_VALUE;
    private static final int MAX = Integer.MAX_VALUE;
    private static final int BLANKS = 0x20202020;
    private static final String SIX_MEN = "man 1;".repeat(6);
    private static final String SIX_CHILDREN = "child 1 1;".repeat(6);
    private static final String[][] WORDS = {{"man", "child", "has", "fears", "likes"},
        {"show", "hide", "scare", "treat", "out", "pick", "year"}, {"prefers", "not"}};

    private TextEdges() {
    }

    static void tell() {
        whatItIs();
        sizesOfCounties();
        sizesOfOthers();
        tokens();
        numbersOfCounties();
        numbersOfOthers();
        faults();
        laterFaults();
        tape();
        text();
        fault();
        county();
        deedAndFact();
        countAndImages();
    }

    /** Has a text read by a new object that takes it. */
    private static PointedBench taken(int sort, String text) {
        PointedBench x = new PointedBench();
        Calls.due("text of '" + text + "'", Calls.read(x, sort, NONE, text), 0);
        Calls.due("fault(0) of '" + text + "'", x.fault(0), 0);
        Calls.due("fault(1) of '" + text + "'", x.fault(1), NONE);
        return x;
    }

    /** Has a text read by a new object that finds a FAULT in it. */
    private static void refused(int sort, String text, int fault, int place) {
        PointedBench x = new PointedBench();
        Calls.due("text of '" + text + "'", Calls.read(x, sort, NONE, text), NONE);
        Calls.due("fault(0) of '" + text + "'", x.fault(0), fault);
        Calls.due("fault(1) of '" + text + "'", x.fault(1), place);
        Calls.due("count behind '" + text + "'", x.count(sort), 0);
    }

    private static int feed(PointedBench x) {
        return x.feed(BLANKS, BLANKS, BLANKS, BLANKS, BLANKS);
    }

    private static void whatItIs() {
        Edges.of("What it is");
        Edges.plain("odds that nobody escapes;");
        Edges.edge("An object is used for at most 512 calls after it has been made;", () -> {
            PointedBench x = new PointedBench();
            // 3 calls: feed, end, text. The 512th is as good as any.
            Calls.due("a COUNTY", Calls.read(x, 0, NONE, "man 1;child 1 1;"), 0);
            for (int call = 4; call <= 508; call += 5) {
                Calls.due("call " + call, feed(x), 20);
                Calls.due("image", x.image(call % 3), true);
                Calls.due("end", x.end(0), 0);
                Calls.due("again", x.again(call % 3), true);
                Calls.due("text", x.text(0, 0), 0);
            }
            Calls.due("call 509", x.feed(0x6d616e20, 0x373b2020, BLANKS, BLANKS, BLANKS), 20);
            Calls.due("call 510", x.text(0, 0), 0);
            Calls.due("call 511", x.county(0, 0), 1);
            Calls.due("call 512", x.county(0, 10), 7);
        });
    }

    private static void sizesOfCounties() {
        Edges.ofTerm(1);
        Edges.edge("A COUNTY has TRAITS, 0 .. 5;", () -> {
            PointedBench x = taken(0, "man 1;has 0 0;has 0 5;child 1 1;fears 0 0;fears 0 5;likes 0 0 1;likes 0 5 2;");
            Calls.due("TRAITS of the MAN", x.county(0, 20), 33);
            Calls.due("what the CHILD FEARS", x.county(0, 50), 33);
            Calls.due("how it LIKES 5", x.county(0, 105), 2);
            refused(0, "man 1;has 0 6;", 2, 12);
            refused(0, "child 1 1;fears 0 6;", 2, 18);
            refused(0, "child 1 1;likes 0 6 1;", 2, 18);
        });
        Edges.edge("MEN, at most 6, from 0 on:", () -> {
            PointedBench x = taken(0, "man 7;man 1;man 2;man 3;man 4;man 8;");
            Calls.due("MEN", x.county(0, 0), 6);
            Calls.due("the first", x.county(0, 10), 7);
            Calls.due("the last", x.county(0, 15), 8);
            Calls.due("none from 1 on", x.county(0, 16), NONE);
            Calls.due("no MEN", taken(0, "child 1 1;").county(0, 0), 0);
            refused(0, SIX_MEN + "man 1;", 3, 36);
        });
        Edges.edge("KINDNESS, 0 .. 9,", () -> {
            PointedBench x = taken(0, "man 0;man 9;");
            Calls.due("the least", x.county(0, 10), 0);
            Calls.due("the most", x.county(0, 11), 9);
            refused(0, "man 10;", 2, 4);
            refused(0, "man 99;", 2, 4);
        });
        Edges.edge("CHILDREN, at most 6, from 0 on:", () -> {
            PointedBench x = taken(0, "child 7 1;child 1 1;child 1 1;child 1 1;child 1 1;child 8 1;");
            Calls.due("CHILDREN", x.county(0, 1), 6);
            Calls.due("the first", x.county(0, 30), 7);
            Calls.due("the last", x.county(0, 35), 8);
            Calls.due("none from 1 on", x.county(0, 36), NONE);
            Calls.due("no CHILDREN", taken(0, "man 1;").county(0, 1), 0);
            refused(0, SIX_CHILDREN + "child 1 1;", 3, 60);
        });
        Edges.edge("AGE, 0 .. 20,", () -> {
            PointedBench x = taken(0, "child 0 1;child 20 1;");
            Calls.due("the least", x.county(0, 30), 0);
            Calls.due("the most", x.county(0, 31), 20);
            refused(0, "child 21 1;", 2, 6);
        });
        Edges.edge("TERM, 0 .. 30 years that the father is in for;", () -> {
            PointedBench x = taken(0, "child 1 0;child 1 30;");
            Calls.due("the least", x.county(0, 40), 0);
            Calls.due("the most", x.county(0, 41), 30);
            refused(0, "child 1 31;", 2, 8);
        });
        Edges.edge("how much each LIKES a TRAIT, 0 .. 9 (0 at first),", () -> {
            PointedBench x = taken(0, "child 1 1;child 1 1;likes 0 0 0;likes 0 1 9;");
            Calls.due("the least", x.county(0, 100), 0);
            Calls.due("the most", x.county(0, 101), 9);
            for (int what = 102; what < 106; what++) {
                Calls.due("at first, " + what, x.county(0, what), 0);
                Calls.due("at first, " + (what + 10), x.county(0, what + 10), 0);
            }
            refused(0, "child 1 1;likes 0 0 10;", 2, 20);
        });
    }

    private static void sizesOfOthers() {
        Edges.edge("A YEAR has DEEDS, at most 40, from 0 on.", () -> {
            PointedBench x = taken(1, "out 5;" + "pick;".repeat(38) + "year;");
            Calls.due("DEEDS", x.deed(0, NONE, 0), 40);
            Calls.due("the first", x.deed(0, 0, 0), 4);
            Calls.due("the last", x.deed(0, 39, 0), 6);
            Calls.due("none from 1 on", x.deed(0, 40, 0), -2);
            refused(1, "pick;".repeat(41), 3, 200);
        });
        Edges.edge("A LOG has FACTS, at most 8, from 0 on:", () -> {
            PointedBench x = taken(2, "prefers 1 2;" + "not 3 4;".repeat(6) + "prefers 5 6;");
            Calls.due("FACTS", x.fact(0, NONE, 0), 8);
            Calls.due("the first", x.fact(0, 0, 1), 1);
            Calls.due("the last", x.fact(0, 7, 1), 5);
            Calls.due("none from 1 on", x.fact(0, 8, 0), -2);
            refused(2, "not 0 0;".repeat(9), 3, 64);
        });
        Edges.edge("THE TAPE has at most 600 bytes.", () -> {
            PointedBench x = taken(0, "man 1;" + " ".repeat(588) + "man 2;");
            Calls.due("the last line is read", x.county(0, 11), 2);
            refused(0, "man 1;" + " ".repeat(591) + "man", 1, 600);
            refused(0, "man 1;" + " ".repeat(589) + "man 1", 1, 600);
            refused(0, "man 1;" + " ".repeat(593) + "?", 1, 599);
            for (int bytes = 20; bytes <= 600; bytes += 20) {
                Calls.due("feed to " + bytes, feed(x), bytes);
            }
            Calls.due("feed beyond", feed(x), NONE);
        });
        Edges.edge("COUNTIES, at most 2 (sort 0), YEARS, at most 2 (1), LOGS, at most 2 (2), from 0 on.", () -> {
            PointedBench x = new PointedBench();
            for (int sort = 0; sort < 3; sort++) {
                Calls.due("a first of sort " + sort, x.text(sort, NONE), 0);
                Calls.due("a second of sort " + sort, x.text(sort, NONE), 1);
                Calls.due("a third of sort " + sort, x.text(sort, NONE), -2);
                Calls.due("count of sort " + sort, x.count(sort), 2);
            }
            Calls.due("no sort 3", x.text(3, NONE), -2);
        });
    }

    private static void tokens() {
        Edges.edge("TOKENS, as long as they go,", () -> {
            refused(0, "manman 1;", 1, 0);
            refused(0, "has 1 1;hasman 1;", 1, 8);
            refused(0, "man12;", 2, 3);
            refused(0, "child 11;", 1, 8);
            refused(1, "pickyear;", 1, 0);
        });
        Edges.edge("blanks (10, 32) between:", () -> {
            Calls.due("of both kinds", taken(0, " \n man \n 7 \n ; \n ").county(0, 10), 7);
            Calls.due("none are needed", taken(0, "man7;child1 2;").county(0, 40), 2);
            Calls.due("blanks alone", taken(0, "\n \n").county(0, 0), 0);
            for (int other : new int[] {0, 9, 11, 12, 13, 31, 33, 127, 138, 160, 255}) {
                refused(0, "man" + (char) other + "7;", 1, 3);
                refused(0, "man 7;" + (char) other, 1, 6);
            }
        });
        Edges.edge("words, rows of letters a .. z;", () -> {
            // 96 and 123 stand beside a and z, 65 and 90 are the great ones.
            for (int other : new int[] {96, 123, 65, 90}) {
                refused(0, "man" + (char) other + "7;", 1, 3);
                refused(0, (char) other + "man 7;", 1, 0);
            }
            refused(0, "mana 7;", 1, 0);
            refused(0, "manz 7;", 1, 0);
            refused(0, "Man 7;", 1, 0);
        });
        Edges.edge("NUMBERS, 1 or 2 digits;", () -> {
            PointedBench x = taken(0, "man 0;man 9;man 00;man 09;child 20 10;");
            int[] due = {0, 9, 0, 9};
            for (int man = 0; man < due.length; man++) {
                Calls.due("KINDNESS of " + man, x.county(0, 10 + man), due[man]);
            }
            Calls.due("AGE", x.county(0, 30), 20);
            Calls.due("TERM", x.county(0, 40), 10);
            refused(0, "man ;", 1, 4);
            refused(0, "man 000;", 1, 4);
            // 47 and 58 stand beside 0 and 9.
            refused(0, "man /;", 1, 4);
            refused(0, "man :;", 1, 4);
            refused(0, "man 1/;", 1, 5);
            refused(0, "man 1:;", 1, 5);
        });
        Edges.edge("; one byte.", () -> {
            refused(0, "man 1;;", 1, 6);
            refused(1, ";", 1, 0);
            refused(1, "pick;;pick;", 1, 5);
            refused(2, "not 1 2;;", 1, 8);
        });
    }

    private static void numbersOfCounties() {
        Edges.edge("A COUNTY's text: {", () -> {
            PointedBench x = taken(0, "");
            Calls.due("MEN of an empty one", x.county(0, 0), 0);
            Calls.due("CHILDREN of an empty one", x.county(0, 1), 0);
            refused(0, "man 1", 1, 5);
            refused(0, "man 1;has 0;", 1, 11);
            refused(0, "child 1 1 1;", 1, 10);
            refused(0, "pick;", 1, 0);
            refused(0, "not 1 1;", 1, 0);
        });
        Edges.edge("has: a MAN, 0 .. 5, a TRAIT;", () -> {
            PointedBench x = taken(0, SIX_MEN + "has 0 0;has 5 5;");
            Calls.due("TRAITS of the first", x.county(0, 20), 1);
            Calls.due("TRAITS of the last", x.county(0, 25), 32);
            refused(0, SIX_MEN + "has 6 0;", 2, 40);
            refused(0, SIX_MEN + "has 5 6;", 2, 42);
        });
        Edges.edge("fears: a CHILD, 0 .. 5, a TRAIT;", () -> {
            PointedBench x = taken(0, SIX_CHILDREN + "fears 0 0;fears 5 5;");
            Calls.due("what the first FEARS", x.county(0, 50), 1);
            Calls.due("what the last FEARS", x.county(0, 55), 32);
            refused(0, SIX_CHILDREN + "fears 6 0;", 2, 66);
            refused(0, SIX_CHILDREN + "fears 5 6;", 2, 68);
        });
        Edges.edge("likes: a CHILD, a TRAIT, how much)", () -> {
            PointedBench x = taken(0, SIX_CHILDREN + "likes 0 0 9;likes 5 5 9;likes 5 4 0;");
            Calls.due("what the first LIKES", x.county(0, 100), 9);
            Calls.due("what the last LIKES", x.county(0, 155), 9);
            refused(0, SIX_CHILDREN + "likes 6 0 1;", 2, 66);
            refused(0, SIX_CHILDREN + "likes 5 6 1;", 2, 68);
            refused(0, SIX_CHILDREN + "likes 5 5 10;", 2, 70);
        });
        Edges.edge("Later ones strike (likes of the same two), but all others, which are further ones.", () -> {
            PointedBench x = taken(0, "man 3;man 3;child 2 2;child 2 2;likes 0 0 9;likes 0 1 8;likes 1 0 7;likes 0 0 4;"
                + "likes 0 1 0;has 0 1;has 0 2;has 0 1;fears 1 3;fears 1 0;fears 1 3;");
            int[][] due = {{0, 2}, {1, 2}, {100, 4}, {101, 0}, {110, 7}, {20, 6}, {21, 0}, {50, 0}, {51, 9}};
            for (int[] row : due) {
                Calls.due("what " + row[0], x.county(0, row[0]), row[1]);
            }
            Calls.due("DEEDS alike", taken(1, "pick;pick;show 0 0;show 0 0;").deed(0, NONE, 0), 4);
            Calls.due("FACTS alike", taken(2, "not 1 2;not 1 2;").fact(0, NONE, 0), 2);
        });
    }

    private static void numbersOfOthers() {
        Edges.edge("A YEAR's text: {", () -> {
            Calls.due("DEEDS of an empty one", taken(1, "").deed(0, NONE, 0), 0);
            refused(1, "pick", 1, 4);
            refused(1, "pick 1;", 1, 5);
            refused(1, "year 1;", 1, 5);
            refused(1, "out;", 1, 3);
            refused(1, "out 1 1;", 1, 6);
            refused(1, "treat 1 1;", 1, 9);
            refused(1, "man 1;", 1, 0);
        });
        Edges.edge("(show, hide: a MAN, a TRAIT;", () -> {
            PointedBench x = taken(1, "show 0 0;show 5 5;hide 0 0;hide 5 5;");
            Calls.due("the MAN of a show", x.deed(0, 1, 1), 5);
            Calls.due("the TRAIT of a hide", x.deed(0, 3, 2), 5);
            refused(1, "show 6 0;", 2, 5);
            refused(1, "show 0 6;", 2, 7);
            refused(1, "hide 6 0;", 2, 5);
            refused(1, "hide 0 6;", 2, 7);
        });
        Edges.edge("scare: a CHILD, a TRAIT;", () -> {
            PointedBench x = taken(1, "scare 0 0;scare 5 5;");
            Calls.due("the CHILD", x.deed(0, 1, 1), 5);
            Calls.due("the TRAIT", x.deed(0, 1, 2), 5);
            refused(1, "scare 6 0;", 2, 6);
            refused(1, "scare 0 6;", 2, 8);
        });
        Edges.edge("treat: a CHILD, a TRAIT, 1 .. 9;", () -> {
            PointedBench x = taken(1, "treat 0 0 1;treat 5 5 9;");
            Calls.due("the least", x.deed(0, 0, 3), 1);
            Calls.due("the most", x.deed(0, 1, 3), 9);
            refused(1, "treat 6 0 1;", 2, 6);
            refused(1, "treat 0 6 1;", 2, 8);
            refused(1, "treat 0 0 0;", 2, 10);
            refused(1, "treat 0 0 00;", 2, 10);
            refused(1, "treat 0 0 10;", 2, 10);
        });
        Edges.edge("out: a CHILD)", () -> {
            PointedBench x = taken(1, "out 0;out 5;");
            Calls.due("the first", x.deed(0, 0, 1), 0);
            Calls.due("the last", x.deed(0, 1, 1), 5);
            refused(1, "out 6;", 2, 4);
        });
        Edges.edge("A LOG's text: {", () -> {
            Calls.due("FACTS of an empty one", taken(2, "").fact(0, NONE, 0), 0);
            refused(2, "not 1 2", 1, 7);
            refused(2, "not 1;", 1, 5);
            refused(2, "prefers 1 2 3;", 1, 12);
            refused(2, "pick;", 1, 0);
        });
        Edges.edge("(two numbers of TRAITS as bits, 0 .. 63)", () -> {
            PointedBench x = taken(2, "prefers 0 63;not 63 0;");
            Calls.due("all", x.fact(0, 0, 2), 63);
            Calls.due("none", x.fact(0, 0, 1), 0);
            Calls.due("not all", x.fact(0, 1, 1), 63);
            refused(2, "prefers 64 0;", 2, 8);
            refused(2, "prefers 0 64;", 2, 10);
            refused(2, "not 64 0;", 2, 4);
            refused(2, "not 0 64;", 2, 6);
        });
    }

    private static void faults() {
        Edges.edge("with places (a token's first byte; the end's):", () -> {
            refused(0, "  manx 1;", 1, 2);
            refused(0, "man 1;\n\n has 10 0;", 2, 13);
            refused(0, SIX_MEN + "   man 1;", 3, 39);
            refused(0, "man", 1, 3);
            refused(0, "man 1  ", 1, 7);
            refused(0, "has 0 0;", 4, 8);
            refused(0, "has 0 0; \n", 4, 10);
        });
        Edges.edge("1 the first byte or token with which no text goes on", () -> {
            refused(0, "?", 1, 0);
            refused(0, "man 1;?;!", 1, 6);
            refused(0, "man 1 has;?", 1, 6);
            refused(0, "man ?;", 1, 4);
            refused(0, "man man 1;", 1, 4);
            refused(0, "child 1 a;", 1, 8);
            refused(0, "child ;", 1, 6);
            refused(1, "out pick;", 1, 4);
            refused(2, "not 1 not;", 1, 6);
            refused(0, "7", 1, 0);
            refused(0, "man 1;;?", 1, 6);
            // Wherever it is, it goes ahead of all others.
            refused(0, "man 10;has 5 5;" + SIX_MEN + "x", 1, 51);
            refused(1, "pick;".repeat(41) + "out 6;out", 1, 214);
            refused(2, "not 64 0;".repeat(9) + ";", 1, 81);
            for (int sort = 0; sort < 3; sort++) {
                for (String word : WORDS[sort]) {
                    boolean alone = word.equals("pick") || word.equals("year");
                    refused(sort, word, 1, word.length());
                    refused(sort, word + (alone ? " 1;" : ";"), 1, word.length() + (alone ? 1 : 0));
                    refused(sort, word.substring(1), 1, 0);
                    refused(sort, "x" + word.substring(1), 1, 0);
                    refused(sort, word.substring(0, word.length() - 1) + "x", 1, 0);
                    refused(sort, word + word.charAt(0), 1, 0);
                    refused((sort + 1) % 3, word, 1, 0);
                    refused((sort + 2) % 3, word, 1, 0);
                }
            }
        });
        Edges.edge("(a longer row of digits is no token)", () -> {
            refused(0, "man 001;", 1, 4);
            refused(0, "man 100;", 1, 4);
            refused(0, "has 0 0;fears 0 0000000000;", 1, 16);
            refused(0, "man 1;123", 1, 6);
            refused(1, "treat 0 0 009;", 1, 10);
            refused(2, "not 0 064;", 1, 6);
            // Where a word, a NUMBER or ; is to come.
            refused(0, "100 man 1;", 1, 0);
            refused(0, "man 1 100", 1, 6);
            refused(1, "pick 100", 1, 5);
            refused(1, "pick;100;", 1, 5);
        });
    }

    private static void laterFaults() {
        Edges.edge("If there is none, the first by place, of one place the least:", () -> {
            refused(0, "man 10;child 21 31;", 2, 4);
            refused(0, "child 21 31;man 10;", 2, 6);
            refused(0, "child 1 31;man 10;", 2, 8);
            refused(0, SIX_MEN + "man 10;", 3, 36);
            refused(0, "has 6 0;" + SIX_MEN + "man 1;", 2, 4);
            refused(0, SIX_MEN + "man 1;has 6 0;", 3, 36);
        });
        Edges.edge("2 a NUMBER that can't be (as above;", () -> {
            refused(0, "man 10;", 2, 4);
            refused(0, "has 0 0;likes 0 0 99;", 2, 18);
            refused(1, "treat 5 5 0;", 2, 10);
            refused(2, "not 63 64;", 2, 7);
        });
        Edges.edge("a line with such a NUMBER tells its MAN, CHILD, DEED, FACT all the same", () -> {
            // The first such NUMBER is the FAULT, whatever is told of its line.
            refused(0, "man 10;has 0 0;", 2, 4);
            refused(0, "man 10;" + SIX_MEN, 2, 4);
            refused(0, "child 21 1;" + SIX_CHILDREN, 2, 6);
            refused(1, "out 6;" + "pick;".repeat(40), 2, 4);
            refused(2, "not 64 0;" + "not 0 0;".repeat(8), 2, 4);
        });
        Edges.edge("3 a 7th MAN, a 7th CHILD, a 41st DEED, a 9th FACT, at its first token.", () -> {
            taken(0, SIX_MEN + SIX_CHILDREN);
            refused(0, SIX_MEN + SIX_CHILDREN + "man 1;", 3, 96);
            refused(0, SIX_CHILDREN + SIX_MEN + "child 1 1;", 3, 96);
            refused(0, SIX_MEN + "man 1;man 1;", 3, 36);
            taken(1, "out 5;".repeat(40));
            refused(1, "out 5;".repeat(40) + " year;", 3, 241);
            for (String deed : new String[] {"show 0 0;", "hide 0 0;", "scare 0 0;", "treat 0 0 1;", "out 0;", "pick;", "year;"}) {
                taken(1, deed.repeat(40));
                refused(1, "pick;".repeat(40) + deed, 3, 200);
            }
            taken(2, "prefers 0 0;".repeat(8));
            refused(2, "prefers 0 0;".repeat(9), 3, 96);
            refused(2, "prefers 0 0;".repeat(8) + "\nnot 0 0;", 3, 97);
            // A line that tells of no further one can come behind all of them.
            taken(0, SIX_MEN + SIX_CHILDREN + "has 5 5;fears 5 5;likes 5 5 9;");
        });
        Edges.edge("If there is none of these, at the end's place, of a COUNTY:", () -> {
            refused(0, "has 0 0;man 10;", 2, 12);
            refused(0, "fears 0 0;" + SIX_MEN + "man 1;", 3, 46);
            refused(0, "has 0 0;man", 1, 11);
            refused(0, "man 1;fears 0 0;   ", 4, 19);
            // A YEAR may tell of a MAN, a CHILD that no COUNTY has.
            taken(1, "show 5 0;hide 5 0;scare 5 0;treat 5 0 1;out 5;");
        });
        Edges.edge("4 a MAN (of has), a CHILD (of fears, likes) that was told of and is not there.", () -> {
            refused(0, "man 1;has 1 0;child 1 1;child 1 1;", 4, 34);
            refused(0, "child 1 1;fears 1 0;man 1;man 1;", 4, 32);
            refused(0, "child 1 1;likes 1 0 0;man 1;man 1;", 4, 34);
            refused(0, "man 1;has 5 0;has 0 0;", 4, 22);
            refused(0, "child 1 1;fears 5 0;likes 0 0 1;", 4, 32);
            refused(0, "child 1 1;likes 5 0 1;fears 0 0;", 4, 32);
            taken(0, "has 1 0;fears 1 0;likes 1 0 1;man 1;man 1;child 1 1;child 1 1;");
        });
    }

    private static void tape() {
        Edges.ofPromise(2);
        Edges.edge("twenty bytes come behind it, of each number the highest first: how many it has.", () -> {
            PointedBench x = new PointedBench();
            // "child 12 30;man 7;" and two bytes of 255: numbers below 0 are bytes, too.
            Calls.due("the first twenty", x.feed(0x6368696c, 0x64203132, 0x2033303b, 0x6d616e20, 0x373bffff), 20);
            Calls.due("twenty more", x.feed(-1, MIN, MAX, 0, 1), 40);
            Calls.due("cut", x.end(18), 18);
            Calls.due("read", x.text(0, NONE), 0);
            Calls.due("AGE", x.county(0, 30), 12);
            Calls.due("TERM", x.county(0, 40), 30);
            Calls.due("KINDNESS", x.county(0, 10), 7);
            Calls.due("a byte of 255", x.feed(BLANKS, BLANKS, 0x202020ff, BLANKS, BLANKS), 20);
            Calls.due("is no token", x.text(0, NONE), NONE);
            Calls.due("at its place", x.fault(1), 11);
        });
        Edges.edge("NONE, and nothing comes, if there would be more than 600.", () -> {
            PointedBench x = new PointedBench();
            for (int bytes = 20; bytes <= 600; bytes += 20) {
                Calls.due("feed to " + bytes, feed(x), bytes);
            }
            Calls.due("20 beyond", x.feed(-1, -1, -1, -1, -1), NONE);
            Calls.due("nothing came", x.end(601), NONE);
            Calls.due("600 are there", x.end(600), 600);
            Calls.due("cut to 581", x.end(581), 581);
            Calls.due("1 beyond", x.feed(-1, -1, -1, -1, -1), NONE);
            Calls.due("nothing came, 581 are there", x.end(582), NONE);
            Calls.due("cut to 580", x.end(580), 580);
            Calls.due("600 once more", feed(x), 600);
            Calls.due("all are blanks", x.text(0, NONE), 0);
        });
        Edges.ofPromise(3);
        Edges.edge("The tape has its first n bytes alone: n.", () -> {
            PointedBench x = new PointedBench();
            Calls.due("nothing of nothing", x.end(0), 0);
            Calls.feed(x, "man 1;man 2;", 0);
            Calls.due("all", x.end(12), 12);
            Calls.due("half", x.end(6), 6);
            Calls.due("no more than half now", x.end(7), NONE);
            Calls.due("read", x.text(0, NONE), 0);
            Calls.due("the first MAN alone", x.county(0, 0), 1);
            Calls.feed(x, "man 1;", 0);
            Calls.due("nothing of it", x.end(0), 0);
            Calls.due("read once more", x.text(0, 0), 0);
            Calls.due("no MAN", x.county(0, 0), 0);
            // A token ends where the tape does, whatever stood behind.
            int[][] cuts = {{2, 1, 0}, {3, 1, 3}, {5, 1, 5}, {6, 1, 6}, {7, 2, 4}, {10, 1, 10}};
            for (int[] cut : cuts) {
                Calls.feed(x, "man 12;manman 3;", 0);
                Calls.due("cut to " + cut[0], x.end(cut[0]), cut[0]);
                Calls.due("its text", x.text(0, 0), NONE);
                Calls.due("its FAULT", x.fault(0), cut[1]);
                Calls.due("its place", x.fault(1), cut[2]);
            }
            Calls.feed(x, "man 10;", 0);
            Calls.due("cut within a NUMBER", x.end(5), 5);
            Calls.feed(x, ";man 7;", 5);
            Calls.due("gone on with", x.text(0, 0), 0);
            Calls.due("the first MAN", x.county(0, 10), 1);
            Calls.due("the other MAN", x.county(0, 11), 7);
        });
        Edges.edge("NONE if it has not so many, or n is below 0.", () -> {
            PointedBench x = new PointedBench();
            Calls.due("1 of none", x.end(1), NONE);
            Calls.feed(x, "man 1;", 0);
            for (int n : new int[] {7, 20, 600, 601, MAX, -1, -6, MIN}) {
                Calls.due("end(" + n + ")", x.end(n), NONE);
            }
            Calls.due("the tape is as it was", x.text(0, NONE), 0);
            Calls.due("with its MAN", x.county(0, 0), 1);
        });
    }

    private static void text() {
        Edges.ofPromise(1);
        Edges.edge("No COUNTIES, YEARS, LOGS; no images.", () -> {
            PointedBench x = new PointedBench();
            for (int k = 0; k < 3; k++) {
                Calls.due("count(" + k + ")", x.count(k), 0);
                Calls.due("again(" + k + ")", x.again(k), false);
            }
            Calls.due("county(0, 0)", x.county(0, 0), NONE);
            Calls.due("deed(0, NONE, 0)", x.deed(0, NONE, 0), -2);
            Calls.due("fact(0, NONE, 0)", x.fact(0, NONE, 0), -2);
            Calls.due("the tape is empty", x.end(1), NONE);
        });
        Edges.ofPromise(4);
        Edges.edge("The tape is taken (and is empty then) as a text of a sort, a further one (at NONE), or in the place of one:"
            + " its number.", () -> {
            PointedBench x = new PointedBench();
            Calls.due("the first", Calls.read(x, 0, NONE, "man 1;has 0 0;"), 0);
            Calls.due("the tape is empty", x.end(1), NONE);
            Calls.due("a further one", Calls.read(x, 0, NONE, "man 2;"), 1);
            Calls.due("in the place of the first", Calls.read(x, 0, 0, "man 3;"), 0);
            Calls.due("the tape is empty then, too", x.feed(0, 0, 0, 0, 0), 20);
            Calls.due("a FAULT", x.text(0, 1), NONE);
            Calls.due("the tape is empty behind it", x.end(1), NONE);
            Calls.due("in the place of the last", Calls.read(x, 0, 1, "man 4;"), 1);
            Calls.due("two", x.count(0), 2);
            Calls.due("the first is another", x.county(0, 10), 3);
            Calls.due("the last is another", x.county(1, 10), 4);
            Calls.due("no YEAR", x.count(1), 0);
            nothingStays();
        });
        Edges.edge("NONE: a FAULT.", () -> {
            PointedBench x = new PointedBench();
            Calls.due("a good one", Calls.read(x, 1, NONE, "pick;"), 0);
            Calls.due("a further one with a FAULT", Calls.read(x, 1, NONE, "year;?"), NONE);
            Calls.due("is not there", x.count(1), 1);
            Calls.due("one in its place with a FAULT", Calls.read(x, 1, 0, "year;out 6;"), NONE);
            Calls.due("leaves it as it was", x.deed(0, 0, 0), 5);
            Calls.due("with one DEED", x.deed(0, NONE, 0), 1);
        });
        Edges.edge("-2: there is none such,", () -> {
            PointedBench x = new PointedBench();
            for (int sort = 0; sort < 3; sort++) {
                Calls.due("at 0 of none", x.text(sort, 0), -2);
                Calls.due("the first", x.text(sort, NONE), 0);
                for (int at : new int[] {1, 2, -2, MIN, MAX}) {
                    Calls.due("at " + at + " of one", x.text(sort, at), -2);
                }
                Calls.due("still one", x.count(sort), 1);
            }
        });
        Edges.edge("there are as many as may be,", () -> {
            PointedBench x = new PointedBench();
            for (int sort = 0; sort < 3; sort++) {
                Calls.due("the first", x.text(sort, NONE), 0);
                Calls.due("the second", x.text(sort, NONE), 1);
                Calls.due("a third", x.text(sort, NONE), -2);
                Calls.due("at 2", x.text(sort, 2), -2);
                Calls.due("in the place of the second", x.text(sort, 1), 1);
                Calls.due("two", x.count(sort), 2);
            }
        });
        Edges.edge("or no such sort", () -> {
            PointedBench x = new PointedBench();
            for (int sort : new int[] {3, -1, MIN, MAX}) {
                Calls.due("sort " + sort, x.text(sort, NONE), -2);
                Calls.due("sort " + sort + " at 0", x.text(sort, 0), -2);
            }
            for (int sort = 0; sort < 3; sort++) {
                Calls.due("none of sort " + sort, x.count(sort), 0);
            }
        });
        Edges.edge("(no text is read then, FAULT 0)", () -> {
            PointedBench x = new PointedBench();
            int[][] ways = {{0, 0}, {0, 2}, {3, NONE}, {-1, 0}};
            for (int[] way : ways) {
                Calls.due("a FAULT ahead", Calls.read(x, 0, NONE, "man 1;?"), NONE);
                Calls.due("a wrong text", Calls.read(x, way[0], way[1], "?"), -2);
                Calls.due("FAULT 0", x.fault(0), 0);
                Calls.due("no place", x.fault(1), NONE);
                Calls.due("the tape is taken", x.end(1), NONE);
            }
            Calls.due("none", x.count(0), 0);
        });
    }

    /** Of what was told in a place nothing stays, if another text comes there. */
    private static void nothingStays() {
        PointedBench x = new PointedBench();
        Calls.due("all of a COUNTY", Calls.read(x, 0, NONE, "man 1;has 0 0;child 1 1;fears 0 0;likes 0 0 9;"), 0);
        Calls.due("another one", Calls.read(x, 0, 0, "man 2;child 2 2;"), 0);
        int[][] due = {{10, 2}, {11, NONE}, {20, 0}, {30, 2}, {40, 2}, {50, 0}, {100, 0}};
        for (int[] row : due) {
            Calls.due("what " + row[0], x.county(0, row[0]), row[1]);
        }
        Calls.due("a YEAR", Calls.read(x, 1, NONE, "pick;year;"), 0);
        Calls.due("another YEAR", Calls.read(x, 1, 0, "out 1;"), 0);
        Calls.due("its DEEDS", x.deed(0, NONE, 0), 1);
        Calls.due("its first", x.deed(0, 0, 0), 4);
        Calls.due("no second", x.deed(0, 1, 0), -2);
        Calls.due("a LOG", Calls.read(x, 2, NONE, "not 1 2;prefers 3 4;"), 0);
        Calls.due("another LOG", Calls.read(x, 2, 0, "not 5 6;"), 0);
        Calls.due("its FACTS", x.fact(0, NONE, 0), 1);
        Calls.due("its first", x.fact(0, 0, 1), 5);
        Calls.due("a MAN that is not there", Calls.read(x, 0, 0, "has 5 0;fears 5 0;"), NONE);
        Calls.due("is nothing to the next text", Calls.read(x, 0, 0, "man 1;child 1 1;"), 0);
    }

    private static void fault() {
        Edges.ofPromise(5);
        Edges.edge("Of the latest text(),", () -> {
            PointedBench x = new PointedBench();
            Calls.due("a FAULT", Calls.read(x, 0, NONE, "man 10;"), NONE);
            Calls.due("the next text comes", feed(x), 20);
            Calls.due("the FAULT is the same till it is read", x.fault(0), 2);
            Calls.due("and its place", x.fault(1), 4);
            Calls.due("then it is read", x.text(2, NONE), 0);
            Calls.due("no FAULT", x.fault(0), 0);
            Calls.due("no place", x.fault(1), NONE);
            Calls.due("another FAULT", Calls.read(x, 1, NONE, "pick"), NONE);
            Calls.due("is the latest", x.fault(0), 1);
            Calls.due("at its place", x.fault(1), 4);
        });
        Edges.edge("what 0: the FAULT, 0 without, 1: its place, NONE without.", () -> {
            PointedBench x = new PointedBench();
            Calls.due("no text at all", x.fault(0), 0);
            Calls.due("no place at all", x.fault(1), NONE);
            String[] texts = {"?", "man 10;", SIX_MEN + "man 1;", "has 0 0;", "man 1;"};
            int[] faults = {1, 2, 3, 4, 0};
            int[] places = {0, 4, 36, 8, NONE};
            for (int i = 0; i < texts.length; i++) {
                Calls.read(x, 0, NONE, texts[i]);
                Calls.due("FAULT of " + texts[i], x.fault(0), faults[i]);
                Calls.due("place of " + texts[i], x.fault(1), places[i]);
            }
        });
        Edges.edge("NONE for another what.", () -> {
            PointedBench x = new PointedBench();
            Calls.due("a FAULT", Calls.read(x, 0, NONE, "man 10;"), NONE);
            for (int what : new int[] {2, 3, 4, -1, -2, MIN, MAX}) {
                Calls.due("fault(" + what + ")", x.fault(what), NONE);
            }
        });
    }

    /** Six MEN, six CHILDREN, of whom all can be told apart. */
    private static final String FULL = "man 3;man 4;man 5;man 6;man 7;man 8;child 1 11;child 2 12;child 3 13;child 4 14;"
        + "child 5 15;child 6 16;has 0 0;has 1 1;has 2 2;has 3 3;has 4 4;has 5 5;fears 0 5;fears 1 4;fears 2 3;fears 3 2;"
        + "fears 4 1;fears 5 0;likes 0 0 1;likes 0 5 2;likes 1 1 3;likes 2 2 4;likes 3 3 5;likes 4 4 6;likes 5 0 7;"
        + "likes 5 5 8;";

    private static int dueOfFull(int what) {
        int who = what % 10;
        if (what == 0 || what == 1) {
            return 6;
        }
        if (what < 10 || who > 5) {
            return NONE;
        }
        int[] likes = {100, 1, 105, 2, 111, 3, 122, 4, 133, 5, 144, 6, 150, 7, 155, 8};
        for (int i = 0; i < likes.length; i += 2) {
            if (likes[i] == what) {
                return likes[i + 1];
            }
        }
        switch (what / 10) {
            case 1:
                return 3 + who;
            case 2:
                return 1 << who;
            case 3:
                return 1 + who;
            case 4:
                return 11 + who;
            case 5:
                return 32 >> who;
            default:
                return what >= 100 && what < 160 ? 0 : NONE;
        }
    }

    private static void county() {
        Edges.ofPromise(6);
        Edges.edge("Of a COUNTY, what 0: MEN, 1: CHILDREN, 10 + m, 20 + m: KINDNESS, TRAITS of a MAN (bits), 30 + c, 40 + c,"
            + " 50 + c: AGE, TERM, what a CHILD FEARS (bits), 100 + 10 c + t: how much it LIKES a TRAIT.", () -> {
            PointedBench x = taken(0, FULL);
            for (int what = 0; what < 160; what++) {
                if (dueOfFull(what) != NONE) {
                    Calls.due("county(0, " + what + ")", x.county(0, what), dueOfFull(what));
                }
            }
        });
        Edges.edge("NONE: there is none such (of any),", () -> {
            PointedBench x = taken(0, "man 1;child 1 1;");
            for (int county : new int[] {1, 2, -1, MIN, MAX}) {
                Calls.due("county(" + county + ", 0)", x.county(county, 0), NONE);
            }
            for (int i = 1; i < 6; i++) {
                for (int tens = 10; tens <= 50; tens += 10) {
                    Calls.due("what " + (tens + i), x.county(0, tens + i), NONE);
                }
                Calls.due("what " + (100 + 10 * i), x.county(0, 100 + 10 * i), NONE);
            }
        });
        Edges.edge("or for another what.", () -> {
            PointedBench x = taken(0, FULL);
            for (int what = -60; what < 700; what++) {
                if (what < 0 || what >= 160 || dueOfFull(what) == NONE) {
                    Calls.due("county(0, " + what + ")", x.county(0, what), NONE);
                }
            }
            Calls.due("the least", x.county(0, MIN), NONE);
            Calls.due("the most", x.county(0, MAX), NONE);
        });
    }

    private static void deedAndFact() {
        String year = "show 1 2;hide 3 4;scare 5 0;treat 1 2 3;out 4;pick;year;";
        Edges.ofPromise(7);
        Edges.edge("How many DEEDS (k NONE, what 0);", () -> {
            Calls.due("seven", taken(1, year).deed(0, NONE, 0), 7);
            Calls.due("none", taken(1, "").deed(0, NONE, 0), 0);
        });
        Edges.edge("what 0: 0 show, 1 hide, 2 scare, 3 treat, 4 out, 5 pick, 6 year, 1, 2, 3: its numbers (NONE without).", () -> {
            PointedBench x = taken(1, year);
            int[][] due = {{0, 1, 2, NONE}, {1, 3, 4, NONE}, {2, 5, 0, NONE}, {3, 1, 2, 3}, {4, 4, NONE, NONE},
                {5, NONE, NONE, NONE}, {6, NONE, NONE, NONE}};
            Calls.due("another YEAR", Calls.read(x, 1, NONE, year), 1);
            for (int k = 0; k < due.length; k++) {
                for (int what = 0; what < 4; what++) {
                    Calls.due("deed(0, " + k + ", " + what + ")", x.deed(0, k, what), due[k][what]);
                    Calls.due("deed(1, " + k + ", " + what + ")", x.deed(1, k, what), due[k][what]);
                }
            }
        });
        Edges.edge("-2: there is none such (of either),", () -> {
            PointedBench x = taken(1, year);
            for (int k : new int[] {1, 2, -1, MIN, MAX}) {
                Calls.due("YEAR " + k, x.deed(k, NONE, 0), -2);
                Calls.due("a DEED of YEAR " + k, x.deed(k, 0, 0), -2);
            }
            for (int k : new int[] {7, 8, 40, -2, MIN, MAX}) {
                Calls.due("DEED " + k, x.deed(0, k, 0), -2);
            }
            Calls.due("a DEED of none", taken(1, "").deed(0, 0, 0), -2);
        });
        Edges.edge("or for another what.", () -> {
            PointedBench x = taken(1, year);
            for (int what : new int[] {4, 5, -1, -2, MIN, MAX}) {
                Calls.due("what " + what, x.deed(0, 3, what), -2);
                Calls.due("what " + what + " of all", x.deed(0, NONE, what), -2);
            }
            for (int what = 1; what < 4; what++) {
                Calls.due("what " + what + " of all", x.deed(0, NONE, what), -2);
            }
        });
        Edges.ofPromise(17);
        Edges.edge("How many FACTS (k NONE, what 0);", () -> {
            Calls.due("two", taken(2, "not 1 2;prefers 3 4;").fact(0, NONE, 0), 2);
            Calls.due("none", taken(2, "").fact(0, NONE, 0), 0);
        });
        Edges.edge("of FACT k, what 0: 0 PREFERRED, 1 not, 1, 2: its TRAITS (bits).", () -> {
            PointedBench x = taken(2, "not 63 2;prefers 3 0;");
            int[][] due = {{1, 63, 2}, {0, 3, 0}};
            for (int k = 0; k < 2; k++) {
                for (int what = 0; what < 3; what++) {
                    Calls.due("fact(0, " + k + ", " + what + ")", x.fact(0, k, what), due[k][what]);
                }
            }
        });
        Edges.edge("-2: there is none such (of either),", () -> {
            PointedBench x = taken(2, "not 1 2;prefers 3 4;");
            for (int k : new int[] {1, 2, -1, MIN, MAX}) {
                Calls.due("LOG " + k, x.fact(k, NONE, 0), -2);
                Calls.due("a FACT of LOG " + k, x.fact(k, 0, 0), -2);
            }
            for (int k : new int[] {2, 3, 8, -2, MIN, MAX}) {
                Calls.due("FACT " + k, x.fact(0, k, 0), -2);
            }
            Calls.due("a FACT of none", taken(2, "").fact(0, 0, 0), -2);
        });
        Edges.edge("or for another what.", () -> {
            PointedBench x = taken(2, "not 1 2;prefers 3 4;");
            Calls.due("another LOG", Calls.read(x, 2, NONE, "not 5 6;"), 1);
            for (int what : new int[] {3, 4, -1, -2, MIN, MAX}) {
                Calls.due("what " + what, x.fact(0, 1, what), -2);
                Calls.due("what " + what + " of the other", x.fact(1, 0, what), -2);
                Calls.due("what " + what + " of all", x.fact(0, NONE, what), -2);
            }
            Calls.due("what 1 of all", x.fact(0, NONE, 1), -2);
            Calls.due("what 2 of all", x.fact(0, NONE, 2), -2);
        });
    }

    private static void countAndImages() {
        Edges.ofPromise(39);
        Edges.edge("How many there are of a sort.", () -> {
            PointedBench x = new PointedBench();
            for (int sort = 0; sort < 3; sort++) {
                for (int many = 0; many < 3; many++) {
                    Calls.due("count(" + sort + ")", x.count(sort), many);
                    x.text(sort, NONE);
                }
                Calls.due("two at most", x.count(sort), 2);
            }
        });
        Edges.edge("-2 for another one.", () -> {
            PointedBench x = new PointedBench();
            for (int sort : new int[] {3, 4, -1, -2, MIN, MAX}) {
                Calls.due("count(" + sort + ")", x.count(sort), -2);
            }
        });
        Edges.ofPromise(40);
        Edges.edge("Image k (0 .. 2) is all that is told (the tape, the FAULT, too), as it is now: true;", TextEdges::images);
        Edges.edge("false for another k.", () -> {
            PointedBench x = taken(0, "man 1;");
            for (int k : new int[] {3, 4, -1, -2, MIN, MAX}) {
                Calls.due("image(" + k + ")", x.image(k), false);
                Calls.due("again(" + k + ")", x.again(k), false);
            }
            for (int k = 0; k < 3; k++) {
                Calls.due("no image " + k + " came of it", x.again(k), false);
            }
        });
        Edges.ofPromise(41);
        Edges.edge("All that is as image k has it: true;", () -> {
            PointedBench x = taken(0, "man 1;");
            Calls.due("an image", x.image(0), true);
            Calls.due("another COUNTY", Calls.read(x, 0, 0, "man 2;child 1 1;"), 0);
            Calls.due("a YEAR", Calls.read(x, 1, NONE, "pick;"), 0);
            Calls.due("a LOG", Calls.read(x, 2, NONE, "not 1 2;"), 0);
            for (int time = 0; time < 2; time++) {
                Calls.due("again", x.again(0), true);
                Calls.due("the COUNTY", x.county(0, 10), 1);
                Calls.due("no CHILDREN", x.county(0, 1), 0);
                Calls.due("no YEAR", x.count(1), 0);
                Calls.due("no LOG", x.count(2), 0);
                Calls.due("what comes then", Calls.read(x, 0, 0, "man 3;"), 0);
                Calls.due("is in no image", x.county(0, 10), 3);
            }
        });
        Edges.edge("false if there is none such.", () -> {
            PointedBench x = taken(0, "man 1;");
            Calls.due("image 1", x.image(1), true);
            Calls.due("another COUNTY", Calls.read(x, 0, 0, "man 2;"), 0);
            for (int k : new int[] {0, 2, 3, -1, -2, MIN, MAX}) {
                Calls.due("again(" + k + ")", x.again(k), false);
                Calls.due("all is as it was", x.county(0, 10), 2);
            }
            Calls.due("image 1 is there", x.again(1), true);
            Calls.due("as it was", x.county(0, 10), 1);
        });
    }

    /** Three images, each of all there is; the last of an object with as much as may be. */
    private static void images() {
        PointedBench x = new PointedBench();
        Calls.due("image 0, of nothing", x.image(0), true);
        Calls.due("a FAULT", Calls.read(x, 0, NONE, "man 10;"), NONE);
        Calls.feed(x, "man 7;child 1 1;", 0);
        Calls.due("image 1, of a tape and a FAULT", x.image(1), true);
        Calls.due("it is read", x.text(0, NONE), 0);
        for (int sort = 0; sort < 3; sort++) {
            x.text(sort, NONE);
            x.text(sort, NONE);
        }
        Calls.due("the last YEAR", Calls.read(x, 1, 1, "pick;".repeat(40)), 1);
        Calls.due("the last LOG", Calls.read(x, 2, 1, "not 1 2;".repeat(8)), 1);
        Calls.due("the last COUNTY", Calls.read(x, 0, 1, FULL), 1);
        Calls.due("image 2, of all", x.image(2), true);
        for (int sort = 0; sort < 3; sort++) {
            Calls.due("another for the first", x.text(sort, 0), 0);
            Calls.due("another for the last", x.text(sort, 1), 1);
        }
        Calls.due("again 1", x.again(1), true);
        Calls.due("no COUNTY", x.count(0), 0);
        Calls.due("the FAULT", x.fault(0), 2);
        Calls.due("its place", x.fault(1), 4);
        Calls.due("the tape", x.end(17), NONE);
        Calls.due("is read", x.text(0, NONE), 0);
        Calls.due("as it was", x.county(0, 10), 7);
        Calls.due("again 0", x.again(0), true);
        Calls.due("nothing", x.count(0) + x.count(1) + x.count(2), 0);
        Calls.due("no FAULT", x.fault(0), 0);
        Calls.due("no place", x.fault(1), NONE);
        Calls.due("no tape", x.end(1), NONE);
        Calls.due("again 2", x.again(2), true);
        Calls.due("all", x.count(0) + x.count(1) + x.count(2), 6);
        for (int what = 0; what < 160; what++) {
            Calls.due("county(1, " + what + ")", x.county(1, what), dueOfFull(what));
        }
        Calls.due("the last DEED", x.deed(1, 39, 0), 5);
        Calls.due("the last FACT", x.fact(1, 7, 2), 2);
        Calls.due("the first COUNTY", x.county(0, 10), 7);
        fullTape();
    }

    /** An image of a tape of 600 bytes has the last one, too. */
    private static void fullTape() {
        PointedBench x = new PointedBench();
        Calls.feed(x, " ".repeat(594) + "man 7;", 0);
        Calls.due("an image", x.image(0), true);
        Calls.due("cut", x.end(0), 0);
        Calls.feed(x, "?".repeat(600), 0);
        Calls.due("the image", x.again(0), true);
        Calls.due("read", x.text(0, NONE), 0);
        Calls.due("its MAN", x.county(0, 10), 7);
    }
}
