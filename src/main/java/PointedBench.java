import java.util.Arrays;

/**
 * The gaoler is picked by the prisoners' children. The words in capitals are those of the document.
 * All rows are made with the object and used again, so that no call makes anything.
 */
public final class PointedBench {
    /** There is none. */
    public static final int NONE = -1;

    /** What some calls answer for what is not there, as NONE means something else in them. */
    private static final int MISSING = -2;
    private static final int NO_RIVALS = -9;

    /** As many MEN, CHILDREN and TRAITS there are at most. */
    private static final int SIX = 6;
    private static final int ALL = 63;
    private static final int NOBODY = 6;
    private static final int NOTHING_SHOWN = 6;

    private static final int COUNTIES = 0;
    private static final int YEARS = 1;
    private static final int LOGS = 2;
    private static final int SORTS = 3;
    private static final int OF_A_SORT = 2;

    private static final int TAPE = 600;
    private static final int FED = 20;
    private static final int IMAGES = 3;
    private static final int MOST_DEEDS = 40;
    private static final int MOST_FACTS = 8;

    private static final int OLDEST_VOTER = 12;
    private static final int OLDEST = 99;
    private static final int LAST_YEAR = 99;
    private static final int LIKES_MOST = 9;
    private static final int MOST_TURNS = 4;
    private static final int MOST_QUIET = 3;
    private static final int MOST_DRAWN = 60;
    private static final int MOST_LATER = 30;

    private static final int SHOW = 0;
    private static final int HIDE = 1;
    private static final int SCARE = 2;
    private static final int TREAT = 3;
    private static final int OUT = 4;
    private static final int PICK = 5;
    private static final int YEAR = 6;
    private static final int PREFERRED = 0;

    private final Told now = new Told();
    private final Told[] images = {new Told(), new Told(), new Told()};
    private final boolean[] kept = new boolean[IMAGES];
    private final Reader reader = new Reader();
    private final Poll poll = new Poll();
    private final Trial trial = new Trial();
    private final Duels duels = new Duels();
    private final Wings cells = new Wings();
    private final Course course = new Course();
    private final Likings likings = new Likings();

    public PointedBench() {
    }

    public int feed(int a, int b, int c, int d, int e) {
        if (now.length + FED > TAPE) {
            return NONE;
        }
        now.append(a);
        now.append(b);
        now.append(c);
        now.append(d);
        now.append(e);
        return now.length;
    }

    public int end(int n) {
        if (n < 0 || n > now.length) {
            return NONE;
        }
        now.length = n;
        return n;
    }

    public int text(int sort, int at) {
        int taken = now.length;
        now.length = 0;
        now.fault = 0;
        now.place = NONE;
        int to = now.placeFor(sort, at);
        if (to == NONE) {
            return MISSING;
        }
        reader.read(sort, now.tape, taken);
        now.fault = reader.fault;
        now.place = reader.place;
        if (reader.fault != 0) {
            return NONE;
        }
        now.keep(sort, to, reader);
        return to;
    }

    public int fault(int what) {
        if (what == 0) {
            return now.fault;
        }
        return what == 1 ? now.place : NONE;
    }

    public int county(int county, int what) {
        County c = now.countyAt(county);
        return c == null ? NONE : c.told(what);
    }

    public int deed(int year, int k, int what) {
        Lines deeds = now.yearAt(year);
        return deeds == null ? MISSING : deeds.told(k, what);
    }

    public int till(int county, int year) {
        County c = now.countyAt(county);
        Lines deeds = now.yearAt(year);
        if (c == null || deeds == null) {
            return NONE;
        }
        course.begin(c);
        return course.follow(deeds, deeds.size);
    }

    public int state(int county, int year, int n, int what) {
        County c = now.countyAt(county);
        Lines deeds = now.yearAt(year);
        if (c == null || deeds == null || n < 0 || n > deeds.size) {
            return NONE;
        }
        course.begin(c);
        return course.follow(deeds, n) < n ? NONE : course.told(what);
    }

    public int picked(int county, int bench) {
        County c = now.countyAt(county);
        if (c == null || bench < 0 || bench > ALL) {
            return NONE;
        }
        poll.ask(c);
        return poll.chosenBy(bench);
    }

    public int show(int county, int man, boolean which) {
        County c = now.countyAt(county);
        if (c == null || !c.hasMan(man)) {
            return NONE;
        }
        return manyOrWhich(trial.fewestShown(c, man), which);
    }

    public int bench(int county, int man, boolean which) {
        County c = now.countyAt(county);
        if (c == null || !c.hasMan(man)) {
            return NONE;
        }
        poll.ask(c);
        return manyOrWhich(poll.greatestBench(man), which);
    }

    public long power(int county, int child, boolean under) {
        County c = now.countyAt(county);
        if (c == null || !c.votes(child)) {
            return NONE;
        }
        poll.ask(c);
        int others = poll.voters & ~(1 << child);
        return leastTerms(poll.decided(child), 1 << Integer.bitCount(others), under);
    }

    public int ban(int county, boolean many) {
        County c = now.countyAt(county);
        return c == null ? NONE : trial.banned(c, many);
    }

    public int rivals(int county, int a, int b, int n, boolean first) {
        County c = now.countyAt(county);
        if (c == null || !c.hasMan(a) || !c.hasMan(b) || a == b || n < 0 || n > MOST_TURNS) {
            return NO_RIVALS;
        }
        return trial.contest(c, a, b, n, first);
    }

    public long quiet(int county, int man, int n, boolean all, boolean under) {
        County c = now.countyAt(county);
        if (c == null || !c.hasMan(man) || n < 1 || n > MOST_QUIET) {
            return NONE;
        }
        int stays = 10 - c.kindness[man];
        long tries = all ? raised(10, n) : 10;
        long good = all ? tries - raised(stays, n) : stays;
        int fathers = c.fathersIn();
        return leastTerms(raised(good, fathers), raised(tries, fathers), under);
    }

    public int fact(int log, int k, int what) {
        Lines facts = now.logAt(log);
        return facts == null ? MISSING : facts.told(k, what);
    }

    public int fits(int log, int what) {
        Lines facts = now.logAt(log);
        if (facts == null) {
            return MISSING;
        }
        likings.gather(facts);
        return likings.told(what);
    }

    public int drawn(int county, int seed, int n, int what) {
        County c = now.countyAt(county);
        if (c == null || n < 0 || n > MOST_DRAWN) {
            return NONE;
        }
        course.begin(c);
        course.draw(seed, n);
        return course.told(what);
    }

    public int duel(int county, int a, int b) {
        County c = now.countyAt(county);
        if (c == null || !c.hasMan(a) || !c.hasMan(b) || a == b) {
            return NONE;
        }
        duels.hold(c);
        return duels.won(a, b);
    }

    public int best(int county, int what) {
        County c = now.countyAt(county);
        if (c == null) {
            return MISSING;
        }
        if (what == 0 || what >= 10) {
            duels.hold(c);
            return what == 0 ? duels.winner() : duels.scoreOf(what - 10);
        }
        return c.outstanding(what);
    }

    public int benches(int county, int man) {
        County c = now.countyAt(county);
        if (c == null || !c.hasMan(man)) {
            return NONE;
        }
        poll.ask(c);
        return poll.benchesFor(man);
    }

    public int trade(int county, int a, int b) {
        County c = now.countyAt(county);
        if (c == null || !c.hasMan(a) || !c.hasMan(b) || a == b) {
            return NONE;
        }
        return trial.traded(c, a, b);
    }

    public int gang(int county, boolean which) {
        County c = now.countyAt(county);
        if (c == null) {
            return NONE;
        }
        return manyOrWhich(c.greatestGang(), which);
    }

    public int kindest(int county, int k) {
        County c = now.countyAt(county);
        return c == null ? NONE : c.byKindness(k);
    }

    public int freed(int county, int man) {
        County c = now.countyAt(county);
        if (c == null || !c.hasMan(man)) {
            return NONE;
        }
        int bits = 0;
        for (int child = 0; child < c.children; child++) {
            if (c.wouldFree(man, child)) {
                bits |= 1 << child;
            }
        }
        return bits;
    }

    public long liked(int county, int man, boolean under) {
        County c = now.countyAt(county);
        if (c == null || !c.hasMan(man)) {
            return NONE;
        }
        int sum = 0;
        for (int trait = 0; trait < SIX; trait++) {
            if ((c.traits[man] >> trait & 1) != 0) {
                sum += c.sweetness(trait);
            }
        }
        return leastTerms(sum, c.children, under);
    }

    public int unlike(int county, int a, int b) {
        County c = now.countyAt(county);
        return c == null || !c.hasChild(a) || !c.hasChild(b) ? NONE : c.distance(a, b);
    }

    public int runoff(int county, int k) {
        County c = now.countyAt(county);
        return c == null ? NONE : c.goingAt(k);
    }

    public int agenda(int county, int man, int k) {
        County c = now.countyAt(county);
        if (c == null || !c.hasMan(man) || !c.hasMan(k)) {
            return NONE;
        }
        duels.hold(c);
        return duels.findRow(man) ? duels.row[k] : NONE;
    }

    public int lies(int county, int child) {
        County c = now.countyAt(county);
        if (c == null || !c.votes(child)) {
            return NONE;
        }
        poll.ask(c);
        return poll.bestLie(c, child);
    }

    public int bun(int county, int child, int man, boolean which) {
        County c = now.countyAt(county);
        if (c == null || !c.hasChild(child) || !c.hasMan(man)) {
            return NONE;
        }
        return c.fewestBuns(child, man, which);
    }

    public int wings(int county, int k) {
        County c = now.countyAt(county);
        if (c == null || (k != NONE && !c.hasChild(k))) {
            return NONE;
        }
        int fewest = cells.divide(c);
        return k == NONE ? fewest : cells.wing[k];
    }

    public int later(int county, int n, boolean who) {
        County c = now.countyAt(county);
        if (c == null || n < 0 || n > MOST_LATER) {
            return NONE;
        }
        trial.ageBy(c, n);
        return who ? trial.chosen() : trial.voters();
    }

    public int fewest(int county, int man, boolean which) {
        County c = now.countyAt(county);
        if (c == null || !c.hasMan(man)) {
            return NONE;
        }
        poll.ask(c);
        return manyOrWhich(poll.smallestBench(man), which);
    }

    public int after(int county, int year, int what) {
        County c = now.countyAt(county);
        Lines deeds = now.yearAt(year);
        if (c == null || deeds == null) {
            return MISSING;
        }
        course.begin(c);
        switch (what) {
            case 0:
                return course.firstReign(deeds);
            case 1:
                return course.changes(deeds);
            case 2:
                return course.longestReign(deeds);
            case 3:
                return course.mostFickle(deeds);
            case 4:
                return course.gains(deeds, SHOW);
            case 5:
                return course.gains(deeds, SCARE);
            default:
                return MISSING;
        }
    }

    public long odds(int log, int a, int b, boolean under) {
        Lines facts = now.logAt(log);
        if (facts == null || a < 0 || a > ALL || b < 0 || b > ALL) {
            return NONE;
        }
        likings.gather(facts);
        return leastTerms(likings.preferring(a, b), likings.fitting, under);
    }

    public int low(int log, boolean high) {
        Lines facts = now.logAt(log);
        if (facts == null) {
            return NONE;
        }
        likings.gather(facts);
        return high ? likings.greatestSum() : likings.leastSum();
    }

    public int count(int sort) {
        return sort < 0 || sort >= SORTS ? MISSING : now.held[sort];
    }

    public boolean image(int k) {
        if (k < 0 || k >= IMAGES) {
            return false;
        }
        images[k].take(now);
        kept[k] = true;
        return true;
    }

    public boolean again(int k) {
        if (k < 0 || k >= IMAGES || !kept[k]) {
            return false;
        }
        now.take(images[k]);
        return true;
    }

    /** NONE stays NONE; else how many bits there are, or the bits themselves. */
    private static int manyOrWhich(int bits, boolean which) {
        return bits == NONE || which ? bits : Integer.bitCount(bits);
    }

    /** The part of a fraction in least terms that is asked for; NONE if there is nothing under it. */
    private static long leastTerms(long over, long under, boolean askUnder) {
        if (under <= 0) {
            return NONE;
        }
        long a = under;
        long b = over;
        // Euclid's steps on numbers of 63 bits are fewer than 100.
        for (int step = 0; step < 100 && b != 0; step++) {
            long rest = a % b;
            a = b;
            b = rest;
        }
        return a == 0 ? NONE : (askUnder ? under : over) / a;
    }

    private static long raised(long base, int times) {
        long product = 1;
        for (int i = 0; i < times; i++) {
            product *= base;
        }
        return product;
    }

    /** A COUNTY, as told or as DEEDS have made it. */
    private static final class County {
        int men;
        int children;
        final int[] kindness = new int[SIX];
        final int[] traits = new int[SIX];
        final int[] age = new int[SIX];
        final int[] term = new int[SIX];
        final int[] fears = new int[SIX];
        final int[] likes = new int[SIX * SIX];

        County() {
        }

        void clear() {
            men = 0;
            children = 0;
            Arrays.fill(traits, 0);
            Arrays.fill(fears, 0);
            Arrays.fill(likes, 0);
        }

        void take(County from) {
            men = from.men;
            children = from.children;
            System.arraycopy(from.kindness, 0, kindness, 0, SIX);
            System.arraycopy(from.traits, 0, traits, 0, SIX);
            System.arraycopy(from.age, 0, age, 0, SIX);
            System.arraycopy(from.term, 0, term, 0, SIX);
            System.arraycopy(from.fears, 0, fears, 0, SIX);
            System.arraycopy(from.likes, 0, likes, 0, SIX * SIX);
        }

        boolean hasMan(int man) {
            return man >= 0 && man < men;
        }

        boolean hasChild(int child) {
            return child >= 0 && child < children;
        }

        int told(int what) {
            if (what < 0) {
                return NONE;
            }
            if (what >= 100) {
                return likesTold(what - 100);
            }
            int who = what % 10;
            switch (what / 10) {
                case 0:
                    return who == 0 ? men : who == 1 ? children : NONE;
                case 1:
                    return hasMan(who) ? kindness[who] : NONE;
                case 2:
                    return hasMan(who) ? traits[who] : NONE;
                case 3:
                    return hasChild(who) ? age[who] : NONE;
                case 4:
                    return hasChild(who) ? term[who] : NONE;
                case 5:
                    return hasChild(who) ? fears[who] : NONE;
                default:
                    return NONE;
            }
        }

        /** How much a CHILD LIKES a TRAIT, told as 10 c + t. */
        int likesTold(int both) {
            int child = both / 10;
            int trait = both % 10;
            return hasChild(child) && trait >= 0 && trait < SIX ? likes[child * SIX + trait] : NONE;
        }

        boolean votes(int child) {
            return hasChild(child) && age[child] <= OLDEST_VOTER && term[child] > 0;
        }

        int fathersIn() {
            int fathers = 0;
            for (int child = 0; child < children; child++) {
                if (term[child] > 0) {
                    fathers++;
                }
            }
            return fathers;
        }

        /**
         * How much a CHILD LIKES the TRAITS of a MAN together, but NONE, below all others, if it FEARS one:
         * so it PUTS a MAN above all those of whom this is less.
         */
        int regard(int child, int man) {
            if ((fears[child] & traits[man]) != 0) {
                return NONE;
            }
            int sum = 0;
            for (int trait = 0; trait < SIX; trait++) {
                if ((traits[man] >> trait & 1) != 0) {
                    sum += likes[child * SIX + trait];
                }
            }
            return sum;
        }

        /** How much all CHILDREN LIKE a TRAIT together. */
        int sweetness(int trait) {
            int sum = 0;
            for (int child = 0; child < children; child++) {
                sum += likes[child * SIX + trait];
            }
            return sum;
        }

        /** To whom of the MEN that stand (bits) a CHILD POINTS. */
        int pointOf(int child, int standing) {
            int most = NONE;
            int to = NOBODY;
            for (int man = 0; man < men; man++) {
                if ((standing >> man & 1) != 0) {
                    int regard = regard(child, man);
                    if (regard > most) {
                        most = regard;
                        to = man;
                    }
                }
            }
            return to;
        }

        boolean wouldFree(int man, int child) {
            return term[child] > 0 && 10 * kindness[man] >= term[child];
        }

        int outstanding(int what) {
            switch (what) {
                case 1:
                    return sweetest();
                case 2:
                    return rarest();
                case 3:
                    return twins();
                case 4:
                    return manyOrWhich(guards(), false);
                case 5:
                    return guards();
                case 6:
                    return longest();
                default:
                    return MISSING;
            }
        }

        private int sweetest() {
            int most = NONE;
            int sweetest = 0;
            for (int trait = 0; trait < SIX; trait++) {
                if (sweetness(trait) > most) {
                    most = sweetness(trait);
                    sweetest = trait;
                }
            }
            return sweetest;
        }

        private int rarest() {
            int least = SIX + 1;
            int rarest = 0;
            for (int trait = 0; trait < SIX; trait++) {
                int having = 0;
                for (int man = 0; man < men; man++) {
                    having += traits[man] >> trait & 1;
                }
                if (having < least) {
                    least = having;
                    rarest = trait;
                }
            }
            return rarest;
        }

        private int twins() {
            int couples = 0;
            for (int man = 0; man < men; man++) {
                for (int other = man + 1; other < men; other++) {
                    if (traits[man] == traits[other]) {
                        couples++;
                    }
                }
            }
            return couples;
        }

        private int guards() {
            int all = traitsOf(ALL);
            int least = SIX + 1;
            int guards = 0;
            for (int some = 0; some < 1 << men; some++) {
                if (Integer.bitCount(some) < least && traitsOf(some) == all) {
                    least = Integer.bitCount(some);
                    guards = some;
                }
            }
            return guards;
        }

        /** The TRAITS (bits) that some MEN (bits) HAVE together. */
        private int traitsOf(int some) {
            int together = 0;
            for (int man = 0; man < men; man++) {
                if ((some >> man & 1) != 0) {
                    together |= traits[man];
                }
            }
            return together;
        }

        private int longest() {
            int longest = 0;
            for (int child = 0; child < children; child++) {
                longest = Math.max(longest, term[child]);
            }
            return longest;
        }

        /** The most CHILDREN (bits) that POINT to one MAN. */
        int greatestGang() {
            int greatest = 0;
            for (int man = 0; man < men; man++) {
                int gang = 0;
                for (int child = 0; child < children; child++) {
                    if (pointOf(child, ALL) == man) {
                        gang |= 1 << child;
                    }
                }
                if (Integer.bitCount(gang) > Integer.bitCount(greatest)) {
                    greatest = gang;
                }
            }
            return greatest;
        }

        int byKindness(int k) {
            for (int man = 0; man < men; man++) {
                int ahead = 0;
                for (int other = 0; other < men; other++) {
                    if (kindness[other] > kindness[man] || (kindness[other] == kindness[man] && other < man)) {
                        ahead++;
                    }
                }
                if (ahead == k) {
                    return man;
                }
            }
            return NONE;
        }

        int distance(int a, int b) {
            int sum = 0;
            for (int trait = 0; trait < SIX; trait++) {
                sum += Math.abs(likes[a * SIX + trait] - likes[b * SIX + trait]);
            }
            return sum;
        }

        /** The k-th MAN that goes in the RUNOFF. */
        int goingAt(int k) {
            if (!hasMan(k)) {
                return NONE;
            }
            int left = (1 << men) - 1;
            int goes = NONE;
            for (int round = 0; round <= k; round++) {
                goes = weakest(left);
                left &= ~(1 << goes);
            }
            return goes;
        }

        /** Of the MEN left (bits; one at least) the one to whom fewest POINT, of several the greatest. */
        private int weakest(int left) {
            int fewest = SIX + 1;
            int weakest = 0;
            for (int man = 0; man < men; man++) {
                if ((left >> man & 1) != 0) {
                    int votes = 0;
                    for (int child = 0; child < children; child++) {
                        if (votes(child) && pointOf(child, left) == man) {
                            votes++;
                        }
                    }
                    if (votes <= fewest) {
                        fewest = votes;
                        weakest = man;
                    }
                }
            }
            return weakest;
        }

        int fewestBuns(int child, int man, boolean which) {
            if (pointOf(child, ALL) == man) {
                return 0;
            }
            int least = NONE;
            int sort = NONE;
            for (int trait = 0; trait < SIX; trait++) {
                int buns = bunsOf(child, man, trait);
                if (buns != NONE && (least == NONE || buns < least)) {
                    least = buns;
                    sort = trait;
                }
            }
            return which ? sort : least;
        }

        /** How much more a CHILD is to LIKE one TRAIT so that it POINTS to a MAN; NONE if that can't help. */
        private int bunsOf(int child, int man, int trait) {
            int own = regard(child, man);
            if (own == NONE || (traits[man] >> trait & 1) == 0) {
                return NONE;
            }
            int buns = 0;
            for (int other = 0; other < men; other++) {
                int lack = regard(child, other) - own + (other < man ? 1 : 0);
                if (other != man && regard(child, other) != NONE && lack > 0) {
                    // Who HAS the TRAIT, too, is LIKED as much more: he stays ahead.
                    if ((traits[other] >> trait & 1) != 0) {
                        return NONE;
                    }
                    buns = Math.max(buns, lack);
                }
            }
            return buns;
        }
    }

    /** A YEAR or a LOG as told: DEEDS or FACTS, each of a kind and with its numbers. */
    private static final class Lines {
        int size;
        final int[] kind;
        final int[] first;
        final int[] second;
        final int[] third;
        private final int numbers;

        Lines(int most, int newNumbers) {
            int room = Math.max(0, most);
            kind = new int[room];
            first = new int[room];
            second = new int[room];
            third = new int[room];
            numbers = newNumbers;
        }

        boolean isFull() {
            return size >= kind.length;
        }

        void add(int newKind, int a, int b, int c) {
            if (!isFull()) {
                kind[size] = newKind;
                first[size] = a;
                second[size] = b;
                third[size] = c;
                size++;
            }
        }

        /** From one that has as much room. */
        void take(Lines from) {
            size = from.size;
            System.arraycopy(from.kind, 0, kind, 0, size);
            System.arraycopy(from.first, 0, first, 0, size);
            System.arraycopy(from.second, 0, second, 0, size);
            System.arraycopy(from.third, 0, third, 0, size);
        }

        int told(int k, int what) {
            if (k == NONE && what == 0) {
                return size;
            }
            if (k < 0 || k >= size || what > numbers) {
                return MISSING;
            }
            switch (what) {
                case 0:
                    return kind[k];
                case 1:
                    return first[k];
                case 2:
                    return second[k];
                case 3:
                    return third[k];
                default:
                    return MISSING;
            }
        }
    }

    /** All that is told: what an image has, too. */
    private static final class Told {
        final County[] counties = {new County(), new County()};
        final Lines[] years = {new Lines(MOST_DEEDS, 3), new Lines(MOST_DEEDS, 3)};
        final Lines[] logs = {new Lines(MOST_FACTS, 2), new Lines(MOST_FACTS, 2)};
        final int[] held = new int[SORTS];
        final byte[] tape = new byte[TAPE];
        int length;
        int fault;
        int place = NONE;

        Told() {
        }

        void append(int four) {
            for (int shift = 24; shift >= 0 && length < TAPE; shift -= 8) {
                tape[length] = (byte) (four >>> shift);
                length++;
            }
        }

        void take(Told from) {
            for (int k = 0; k < OF_A_SORT; k++) {
                counties[k].take(from.counties[k]);
                years[k].take(from.years[k]);
                logs[k].take(from.logs[k]);
            }
            System.arraycopy(from.held, 0, held, 0, SORTS);
            System.arraycopy(from.tape, 0, tape, 0, TAPE);
            length = from.length;
            fault = from.fault;
            place = from.place;
        }

        /** Where a text of a sort goes; NONE if it can't go there. */
        int placeFor(int sort, int at) {
            if (sort < 0 || sort >= SORTS) {
                return NONE;
            }
            if (at == NONE) {
                return held[sort] < OF_A_SORT ? held[sort] : NONE;
            }
            return has(sort, at) ? at : NONE;
        }

        boolean has(int sort, int k) {
            return k >= 0 && k < held[sort];
        }

        /** What the reader has read goes to its place, which placeFor has told. */
        void keep(int sort, int at, Reader reader) {
            if (sort == COUNTIES) {
                counties[at].take(reader.county);
            } else if (sort == YEARS) {
                years[at].take(reader.deeds);
            } else {
                logs[at].take(reader.facts);
            }
            held[sort] = Math.max(held[sort], at + 1);
        }

        County countyAt(int k) {
            return has(COUNTIES, k) ? counties[k] : null;
        }

        Lines yearAt(int k) {
            return has(YEARS, k) ? years[k] : null;
        }

        Lines logAt(int k) {
            return has(LOGS, k) ? logs[k] : null;
        }
    }

    /** Reads a text from the tape; what it tells of stands in a row of the reader's own till it is kept. */
    private static final class Reader {
        /** The first words of all lines, eight signs each: COUNTY's, YEAR's, LOG's. */
        private static final String WORDS =
            "man     child   has     fears   likes   show    hide    scare   treat   out     pick    year    prefers not     ";
        private static final int WIDTH = 8;
        private static final int[] FIRST_LINE = {0, 5, 12, 14};
        private static final int MAN = 0;
        private static final int CHILD = 1;
        private static final int HAS = 2;
        private static final int FEARS = 3;

        /** The greatest that each of a line's three NUMBERS can be; NONE: there is no such NUMBER. */
        private static final int[] GREATEST = {
            9, -1, -1, 20, 30, -1, 5, 5, -1, 5, 5, -1, 5, 5, 9,
            5, 5, -1, 5, 5, -1, 5, 5, -1, 5, 5, 9, 5, -1, -1, -1, -1, -1, -1, -1, -1,
            63, 63, -1, 63, 63, -1};
        private static final int NUMBERS = 3;

        private static final int OVER = 0;
        private static final int WORD = 1;
        private static final int NUMBER = 2;
        private static final int STOP = 3;
        private static final int NO_TOKEN = 4;

        final County county = new County();
        final Lines deeds = new Lines(MOST_DEEDS, 3);
        final Lines facts = new Lines(MOST_FACTS, 2);
        int fault;
        int place;
        private byte[] tape;
        private int length;
        private int token;
        private int from;
        private int to;
        private int men;
        private int children;
        private final int[] numbers = new int[NUMBERS];

        Reader() {
        }

        void read(int sort, byte[] newTape, int newLength) {
            begin(newTape, newLength);
            // A line has a byte at least, so there are no more lines than bytes.
            for (int line = 0; line <= length; line++) {
                next();
                if (token == OVER) {
                    if (fault == 0 && toldOfMissing()) {
                        blame(4, length);
                    }
                    return;
                }
                if (!readLine(sort)) {
                    fault = 1;
                    place = from;
                    return;
                }
            }
        }

        private void begin(byte[] newTape, int newLength) {
            tape = newTape;
            length = Math.min(newLength, newTape.length);
            to = 0;
            fault = 0;
            place = NONE;
            men = 0;
            children = 0;
            county.clear();
            deeds.size = 0;
            facts.size = 0;
        }

        /** Of all FAULTS but 1 the first stands, and they are met by their places. */
        private void blame(int newFault, int newPlace) {
            if (fault == 0) {
                fault = newFault;
                place = newPlace;
            }
        }

        /** Takes the next token; one that is none is NO_TOKEN, so that no line goes on with it. */
        private void next() {
            from = to;
            while (from < length && (tape[from] == ' ' || tape[from] == '\n')) {
                from++;
            }
            to = from;
            if (from >= length) {
                token = OVER;
            } else if (isLetter(tape[from])) {
                token = WORD;
                while (to < length && isLetter(tape[to])) {
                    to++;
                }
            } else if (isDigit(tape[from])) {
                while (to < length && isDigit(tape[to])) {
                    to++;
                }
                token = to - from <= 2 ? NUMBER : NO_TOKEN;
            } else {
                to++;
                token = tape[from] == ';' ? STOP : NO_TOKEN;
            }
        }

        private static boolean isLetter(byte sign) {
            return sign >= 'a' && sign <= 'z';
        }

        private static boolean isDigit(byte sign) {
            return sign >= '0' && sign <= '9';
        }

        /** Reads a line whose first token is taken; false at the token with which no text goes on. */
        private boolean readLine(int sort) {
            int line = lineOf(sort);
            if (line == NONE) {
                return false;
            }
            if (isFullFor(line)) {
                blame(3, from);
            }
            Arrays.fill(numbers, NONE);
            for (int i = 0; i < NUMBERS && GREATEST[line * NUMBERS + i] != NONE; i++) {
                next();
                if (token != NUMBER) {
                    return false;
                }
                numbers[i] = value();
                if (!canBe(line, i)) {
                    blame(2, from);
                }
            }
            next();
            if (token != STOP) {
                return false;
            }
            if (fault == 0) {
                store(line);
            }
            return true;
        }

        /** The line of a sort that begins with the token; NONE if none does. */
        private int lineOf(int sort) {
            if (token == WORD && to - from < WIDTH) {
                for (int line = FIRST_LINE[sort]; line < FIRST_LINE[sort + 1]; line++) {
                    if (isWordOf(line)) {
                        return line;
                    }
                }
            }
            return NONE;
        }

        private boolean isWordOf(int line) {
            for (int i = 0; i < WIDTH; i++) {
                int sign = from + i < to ? tape[from + i] : ' ';
                if (sign != WORDS.charAt(line * WIDTH + i)) {
                    return false;
                }
            }
            return true;
        }

        private boolean isFullFor(int line) {
            if (line == MAN) {
                return county.men >= SIX;
            }
            if (line == CHILD) {
                return county.children >= SIX;
            }
            if (line >= FIRST_LINE[LOGS]) {
                return facts.isFull();
            }
            return line >= FIRST_LINE[YEARS] && deeds.isFull();
        }

        private int value() {
            int value = 0;
            for (int i = from; i < to; i++) {
                value = 10 * value + tape[i] - '0';
            }
            return value;
        }

        private boolean canBe(int line, int i) {
            boolean isTreat = line == FIRST_LINE[YEARS] + TREAT && i == 2;
            return numbers[i] <= GREATEST[line * NUMBERS + i] && numbers[i] >= (isTreat ? 1 : 0);
        }

        /** A line without a FAULT, none having been ahead of it: so its NUMBERS can be and there is room. */
        private void store(int line) {
            if (line >= FIRST_LINE[LOGS]) {
                facts.add(line - FIRST_LINE[LOGS], numbers[0], numbers[1], NONE);
            } else if (line >= FIRST_LINE[YEARS]) {
                deeds.add(line - FIRST_LINE[YEARS], numbers[0], numbers[1], numbers[2]);
            } else if (line == MAN) {
                county.kindness[county.men] = numbers[0];
                county.men++;
            } else if (line == CHILD) {
                county.age[county.children] = numbers[0];
                county.term[county.children] = numbers[1];
                county.children++;
            } else if (line == HAS) {
                county.traits[numbers[0]] |= 1 << numbers[1];
                men = Math.max(men, numbers[0] + 1);
            } else {
                children = Math.max(children, numbers[0] + 1);
                if (line == FEARS) {
                    county.fears[numbers[0]] |= 1 << numbers[1];
                } else {
                    county.likes[numbers[0] * SIX + numbers[1]] = numbers[2];
                }
            }
        }

        private boolean toldOfMissing() {
            return men > county.men || children > county.children;
        }
    }

    /** To whom the CHILDREN of one COUNTY POINT, and whom their benches pick. */
    private static final class Poll {
        int voters;
        private int men;
        private final int[] point = new int[SIX];

        Poll() {
        }

        void ask(County county) {
            voters = 0;
            men = county.men;
            for (int child = 0; child < SIX; child++) {
                point[child] = NOBODY;
                if (county.votes(child)) {
                    voters |= 1 << child;
                    point[child] = county.pointOf(child, ALL);
                }
            }
        }

        int chosenBy(int bench) {
            // Each MAN's count, six at most, has four bits, so that no row is needed.
            int counts = 0;
            for (int child = 0; child < SIX; child++) {
                if ((bench >> child & 1) != 0 && point[child] != NOBODY) {
                    counts += 1 << 4 * point[child];
                }
            }
            int most = 0;
            int chosen = NOBODY;
            for (int man = 0; man < men; man++) {
                int votes = counts >> 4 * man & 15;
                if (votes > most) {
                    most = votes;
                    chosen = man;
                }
            }
            return chosen;
        }

        private boolean isBenchOf(int bench, int whole) {
            return (bench & ~whole) == 0;
        }

        int greatestBench(int man) {
            int greatest = NONE;
            for (int bench = 1; bench <= voters; bench++) {
                if (isBenchOf(bench, voters) && chosenBy(bench) == man
                    && (greatest == NONE || Integer.bitCount(bench) > Integer.bitCount(greatest))) {
                    greatest = bench;
                }
            }
            return greatest;
        }

        int smallestBench(int man) {
            int smallest = NONE;
            for (int bench = 1; bench <= voters; bench++) {
                if (isBenchOf(bench, voters) && chosenBy(bench) == man
                    && (smallest == NONE || Integer.bitCount(bench) < Integer.bitCount(smallest))) {
                    smallest = bench;
                }
            }
            return smallest;
        }

        int benchesFor(int man) {
            int benches = 0;
            for (int bench = 1; bench <= voters; bench++) {
                if (isBenchOf(bench, voters) && chosenBy(bench) == man) {
                    benches++;
                }
            }
            return benches;
        }

        /** By how many benches of the others that have a VOTE it is a CHILD that decides. */
        int decided(int child) {
            int own = 1 << child;
            int decided = 0;
            for (int bench = 0; bench <= voters; bench++) {
                if (isBenchOf(bench, voters & ~own) && chosenBy(bench) != chosenBy(bench | own)) {
                    decided++;
                }
            }
            return decided;
        }

        int bestLie(County county, int child) {
            int chosen = chosenBy(ALL);
            if (chosen == NOBODY) {
                return NONE;
            }
            int truth = point[child];
            int regard = county.regard(child, chosen);
            int lie = NONE;
            for (int man = 0; man < men && lie == NONE; man++) {
                point[child] = man;
                int then = chosenBy(ALL);
                if (then != NOBODY && county.regard(child, then) > regard) {
                    lie = man;
                }
            }
            point[child] = truth;
            return lie;
        }
    }

    /** What would be, if some things of a COUNTY were otherwise: tried out on a copy. */
    private static final class Trial {
        private final County county = new County();
        private final Poll poll = new Poll();
        private int first;
        private int second;
        private int turns;

        Trial() {
        }

        int chosen() {
            poll.ask(county);
            return poll.chosenBy(ALL);
        }

        int voters() {
            poll.ask(county);
            return poll.voters;
        }

        void ageBy(County told, int years) {
            county.take(told);
            for (int child = 0; child < county.children; child++) {
                county.age[child] += years;
                county.term[child] = Math.max(0, county.term[child] - years);
            }
        }

        int fewestShown(County told, int man) {
            county.take(told);
            int own = told.traits[man];
            int fewest = NONE;
            for (int shown = 0; shown <= ALL; shown++) {
                if ((shown & own) == 0
                    && (fewest == NONE || Integer.bitCount(shown) < Integer.bitCount(fewest))) {
                    county.traits[man] = own | shown;
                    if (chosen() == man) {
                        fewest = shown;
                    }
                }
            }
            return fewest;
        }

        int banned(County told, boolean many) {
            int most = NONE;
            int banned = 0;
            for (int trait = 0; trait < SIX; trait++) {
                county.take(told);
                for (int man = 0; man < county.men; man++) {
                    county.traits[man] &= ~(1 << trait);
                }
                int moved = 0;
                for (int child = 0; child < county.children; child++) {
                    if (county.pointOf(child, ALL) != told.pointOf(child, ALL)) {
                        moved++;
                    }
                }
                if (moved > most) {
                    most = moved;
                    banned = trait;
                }
            }
            return many ? most : banned;
        }

        int traded(County told, int a, int b) {
            county.take(told);
            int given = told.traits[a] & ~told.traits[b];
            int taken = told.traits[b] & ~told.traits[a];
            for (int trait = 0; trait < SIX; trait++) {
                for (int other = 0; other < SIX; other++) {
                    if ((given >> trait & 1) != 0 && (taken >> other & 1) != 0) {
                        int both = 1 << trait | 1 << other;
                        county.traits[a] = told.traits[a] ^ both;
                        county.traits[b] = told.traits[b] ^ both;
                        if (chosen() == a) {
                            return 10 * trait + other;
                        }
                    }
                }
            }
            return NONE;
        }

        /** RIVALS: how much, or what the first one shows first. */
        int contest(County told, int a, int b, int n, boolean what) {
            county.take(told);
            first = a;
            second = b;
            turns = n;
            if (!what) {
                return outcome(0, -1, 1);
            }
            int most = -2;
            int best = NONE;
            for (int shown = 0; shown <= NOTHING_SHOWN && n > 0 && most < 1; shown++) {
                if (canShow(a, shown)) {
                    int much = outcomeBehind(0, shown, Math.max(most, -1), 1);
                    if (much > most) {
                        most = much;
                        best = shown;
                    }
                }
            }
            return best;
        }

        private boolean canShow(int man, int shown) {
            return shown == NOTHING_SHOWN || (county.traits[man] >> shown & 1) == 0;
        }

        /** How much it comes to, if from this turn on both do their best; exact between low and high. */
        private int outcome(int turn, int low, int high) {
            if (turn >= turns) {
                int chosen = chosen();
                return chosen == first ? 1 : chosen == second ? -1 : 0;
            }
            boolean firstMoves = turn % 2 == 0;
            int man = firstMoves ? first : second;
            int least = low;
            int most = high;
            for (int shown = 0; shown <= NOTHING_SHOWN && least < most; shown++) {
                if (canShow(man, shown)) {
                    int much = outcomeBehind(turn, shown, least, most);
                    if (firstMoves) {
                        least = Math.max(least, much);
                    } else {
                        most = Math.min(most, much);
                    }
                }
            }
            return firstMoves ? least : most;
        }

        private int outcomeBehind(int turn, int shown, int low, int high) {
            int man = turn % 2 == 0 ? first : second;
            int own = county.traits[man];
            if (shown != NOTHING_SHOWN) {
                county.traits[man] = own | 1 << shown;
            }
            int much = outcome(turn + 1, low, high);
            county.traits[man] = own;
            return much;
        }
    }

    /** The DUELS of all MEN of one COUNTY. */
    private static final class Duels {
        final int[] row = new int[SIX];
        private int men;
        private final int[] wins = new int[SIX * SIX];
        private final int[] regards = new int[SIX];

        Duels() {
        }

        void hold(County county) {
            men = county.men;
            Arrays.fill(wins, 0);
            for (int child = 0; child < county.children; child++) {
                if (county.votes(child)) {
                    holdBefore(county, child);
                }
            }
        }

        private void holdBefore(County county, int child) {
            for (int man = 0; man < men; man++) {
                regards[man] = county.regard(child, man);
            }
            for (int man = 0; man < men; man++) {
                for (int other = 0; other < men; other++) {
                    if (regards[man] > regards[other]) {
                        wins[man * SIX + other]++;
                    }
                }
            }
        }

        int won(int man, int other) {
            return wins[man * SIX + other];
        }

        int winner() {
            for (int man = 0; man < men; man++) {
                int beaten = 0;
                for (int other = 0; other < men; other++) {
                    if (won(man, other) > won(other, man)) {
                        beaten++;
                    }
                }
                if (beaten == men - 1) {
                    return man;
                }
            }
            return NONE;
        }

        int scoreOf(int man) {
            if (man < 0 || man >= men) {
                return MISSING;
            }
            int sum = 0;
            for (int other = 0; other < men; other++) {
                sum += won(man, other);
            }
            return sum;
        }

        /** Puts the first row in which a MAN stays at the end; false if there is none. */
        boolean findRow(int man) {
            for (int i = 0; i < SIX; i++) {
                row[i] = i;
            }
            // 720: as many rows as six MEN can stand in.
            for (int tried = 0; tried < 720; tried++) {
                if (staysOfRow() == man) {
                    return true;
                }
                if (!nextRow()) {
                    return false;
                }
            }
            return false;
        }

        private int staysOfRow() {
            int stays = row[0];
            for (int i = 1; i < men; i++) {
                if (won(row[i], stays) > won(stays, row[i])) {
                    stays = row[i];
                }
            }
            return stays;
        }

        /** Puts the row that comes next by numbers; false if this was the last one. */
        private boolean nextRow() {
            int turn = men - 2;
            while (turn >= 0 && row[turn] > row[turn + 1]) {
                turn--;
            }
            if (turn < 0) {
                return false;
            }
            int next = men - 1;
            while (next > turn && row[next] < row[turn]) {
                next--;
            }
            swap(turn, next);
            int low = turn + 1;
            for (int high = men - 1; high > low; high--) {
                swap(low, high);
                low++;
            }
            return true;
        }

        private void swap(int i, int j) {
            int kept = row[i];
            row[i] = row[j];
            row[j] = kept;
        }
    }

    /** Puts fathers into wings. */
    private static final class Wings {
        final int[] wing = new int[SIX];

        Wings() {
        }

        /** As few wings as will do: how many; each one's is put into the row. */
        int divide(County county) {
            for (int many = 0; many <= SIX; many++) {
                if (place(county, 0, many)) {
                    return many;
                }
            }
            return SIX;
        }

        /** Puts the fathers from this CHILD's on into the first row that goes with those ahead. */
        private boolean place(County county, int child, int many) {
            if (child >= county.children) {
                return true;
            }
            if (county.term[child] <= 0) {
                wing[child] = NOBODY;
                return place(county, child + 1, many);
            }
            for (int to = 0; to < many; to++) {
                wing[child] = to;
                if (goesWithThoseAhead(county, child) && place(county, child + 1, many)) {
                    return true;
                }
            }
            return false;
        }

        private boolean goesWithThoseAhead(County county, int child) {
            for (int other = 0; other < child; other++) {
                if (wing[other] == wing[child] && (county.fears[other] & county.fears[child]) != 0) {
                    return false;
                }
            }
            return true;
        }
    }

    /** What becomes of a COUNTY, DEED by DEED. */
    private static final class Course {
        /** Which DEED each number below 10 draws. */
        private static final int[] LOTS = {SHOW, SHOW, HIDE, SCARE, TREAT, OUT, PICK, PICK, YEAR, YEAR};

        private final County county = new County();
        private final Poll poll = new Poll();
        private final int[] times = new int[SIX];
        private final int[] points = new int[SIX];
        private int year;
        private int gaoler;
        private int picks;
        private int outs;
        private int seed;

        Course() {
        }

        void begin(County told) {
            county.take(told);
            year = 0;
            gaoler = NOBODY;
            picks = 0;
            outs = 0;
        }

        /** Does the first n DEEDS, up to one that can't be: how many it has done. */
        int follow(Lines deeds, int n) {
            for (int k = 0; k < n; k++) {
                if (!doDeed(deeds, k)) {
                    return k;
                }
            }
            return n;
        }

        private boolean doDeed(Lines deeds, int k) {
            return act(deeds.kind[k], deeds.first[k], deeds.second[k], deeds.third[k]);
        }

        /** Does a DEED; false, and nothing is done, if it can't be. */
        private boolean act(int kind, int who, int trait, int much) {
            switch (kind) {
                case SHOW:
                case HIDE:
                    return turnTrait(who, trait, kind == SHOW);
                case SCARE:
                    return frighten(who, trait);
                case TREAT:
                    return indulge(who, trait, much);
                case OUT:
                    return letOut(who);
                case PICK:
                    poll.ask(county);
                    gaoler = poll.chosenBy(ALL);
                    picks++;
                    return true;
                default:
                    return passYear();
            }
        }

        private boolean turnTrait(int man, int trait, boolean on) {
            if (!county.hasMan(man)) {
                return false;
            }
            if (on) {
                county.traits[man] |= 1 << trait;
            } else {
                county.traits[man] &= ~(1 << trait);
            }
            return true;
        }

        private boolean frighten(int child, int trait) {
            if (!county.hasChild(child)) {
                return false;
            }
            county.fears[child] |= 1 << trait;
            return true;
        }

        private boolean indulge(int child, int trait, int much) {
            if (!county.hasChild(child) || trait < 0 || trait >= SIX) {
                return false;
            }
            int at = child * SIX + trait;
            county.likes[at] = Math.min(LIKES_MOST, county.likes[at] + much);
            return true;
        }

        private boolean letOut(int child) {
            if (!county.hasChild(child) || gaoler == NOBODY || !county.wouldFree(gaoler, child)) {
                return false;
            }
            county.term[child] = 0;
            outs++;
            return true;
        }

        private boolean passYear() {
            if (year >= LAST_YEAR) {
                return false;
            }
            year++;
            for (int child = 0; child < county.children; child++) {
                county.age[child] = Math.min(OLDEST, county.age[child] + 1);
                county.term[child] = Math.max(0, county.term[child] - 1);
            }
            return true;
        }

        int told(int what) {
            if (what < 0) {
                return NONE;
            }
            if (what >= 100) {
                return county.likesTold(what - 100);
            }
            int who = what % 10;
            switch (what / 10) {
                case 0:
                    return toldOfAll(who);
                case 1:
                    return county.hasMan(who) ? county.traits[who] : NONE;
                case 2:
                    return county.hasChild(who) ? county.age[who] : NONE;
                case 3:
                    return county.hasChild(who) ? county.term[who] : NONE;
                case 4:
                    return county.hasChild(who) ? county.fears[who] : NONE;
                case 5:
                    return county.hasChild(who) ? county.pointOf(who, ALL) : NONE;
                default:
                    return NONE;
            }
        }

        private int toldOfAll(int what) {
            switch (what) {
                case 0:
                    return year;
                case 1:
                    return gaoler;
                case 2:
                    return picks;
                case 3:
                    poll.ask(county);
                    return poll.voters;
                case 4:
                    poll.ask(county);
                    return poll.chosenBy(ALL);
                case 5:
                    return outs;
                default:
                    return NONE;
            }
        }

        void draw(int newSeed, int n) {
            seed = newSeed;
            for (int i = 0; i < n; i++) {
                drawDeed();
            }
        }

        private int below(int n) {
            seed = seed * 1103515245 + 12345;
            return n > 0 ? (seed >>> 16) % n : 0;
        }

        /** Draws a DEED in the document's order: which, who, which TRAIT, how much. */
        private void drawDeed() {
            int lot = below(LOTS.length);
            int kind = LOTS[lot];
            boolean ofMan = kind == SHOW || kind == HIDE;
            boolean ofAll = kind == PICK || kind == YEAR;
            int people = ofMan ? county.men : county.children;
            if (ofAll) {
                act(kind, NONE, NONE, NONE);
            } else if (people > 0) {
                int who = below(people);
                int trait = kind == OUT ? NONE : below(SIX);
                int much = kind == TREAT ? 1 + below(3) : NONE;
                act(kind, who, trait, much);
            }
        }

        /** This and the next ones: of a YEAR that has just begun, behind all DEEDS up to END. */
        int firstReign(Lines deeds) {
            for (int k = 0; k < deeds.size && doDeed(deeds, k); k++) {
                if (gaoler != NOBODY) {
                    return k;
                }
            }
            return NONE;
        }

        int changes(Lines deeds) {
            int changes = 0;
            int ahead = gaoler;
            for (int k = 0; k < deeds.size && doDeed(deeds, k); k++) {
                if (gaoler != ahead) {
                    changes++;
                    ahead = gaoler;
                }
            }
            return changes;
        }

        int longestReign(Lines deeds) {
            Arrays.fill(times, 0);
            for (int k = 0; k < deeds.size && doDeed(deeds, k); k++) {
                if (deeds.kind[k] == YEAR && gaoler != NOBODY) {
                    times[gaoler]++;
                }
            }
            return mostTimes();
        }

        int mostFickle(Lines deeds) {
            Arrays.fill(times, 0);
            for (int child = 0; child < county.children; child++) {
                points[child] = county.pointOf(child, ALL);
            }
            for (int k = 0; k < deeds.size && doDeed(deeds, k); k++) {
                for (int child = 0; child < county.children; child++) {
                    int point = county.pointOf(child, ALL);
                    if (point != points[child]) {
                        points[child] = point;
                        times[child]++;
                    }
                }
            }
            return mostTimes();
        }

        private int mostTimes() {
            int most = 0;
            int who = NONE;
            for (int i = 0; i < SIX; i++) {
                if (times[i] > most) {
                    most = times[i];
                    who = i;
                }
            }
            return who;
        }

        /** How many DEEDS of a kind, show or scare, there were by which one HAS or FEARS more. */
        int gains(Lines deeds, int kind) {
            int gains = 0;
            int ahead = bitsOf(kind);
            for (int k = 0; k < deeds.size && doDeed(deeds, k); k++) {
                int behind = bitsOf(kind);
                if (deeds.kind[k] == kind && behind > ahead) {
                    gains++;
                }
                ahead = behind;
            }
            return gains;
        }

        private int bitsOf(int kind) {
            int bits = 0;
            for (int i = 0; i < SIX; i++) {
                bits += Integer.bitCount(kind == SHOW ? county.traits[i] : county.fears[i]);
            }
            return bits;
        }
    }

    /** The LIKINGS that FIT one LOG. */
    private static final class Likings {
        private static final int NUMBERS = 729;

        /** What one TRAIT more at the end adds, by how much it is LIKED: bit 5, and bit 11 if by 2. */
        private static final int[] LAST_TRAIT = {0, 32, 32 + 2048};

        int fitting;
        private final int[] fit = new int[NUMBERS];
        /** Of each number two bits for a TRAIT, t and t + 6, as many set as it is LIKED. */
        private final int[] marks = new int[NUMBERS];
        private final int[] levels = new int[SIX];
        private final int[] more = new int[SIX * SIX];

        Likings() {
            for (int number = 1; number < NUMBERS; number++) {
                // A third of the number has the same TRAITS, each a place further on.
                marks[number] = marks[number / 3] >> 1 | LAST_TRAIT[number % 3];
            }
        }

        void gather(Lines facts) {
            fitting = 0;
            for (int number = 0; number < NUMBERS; number++) {
                if (fitsAll(facts, number)) {
                    fit[fitting] = number;
                    fitting++;
                }
            }
        }

        private boolean fitsAll(Lines facts, int number) {
            for (int k = 0; k < facts.size; k++) {
                boolean isMore = sumOf(number, facts.first[k]) > sumOf(number, facts.second[k]);
                if (isMore != (facts.kind[k] == PREFERRED)) {
                    return false;
                }
            }
            return true;
        }

        /** How much some TRAITS (bits) are LIKED together. */
        private int sumOf(int number, int bits) {
            return Integer.bitCount(marks[number] & (bits | bits << SIX));
        }

        int told(int what) {
            if (what == 0) {
                return fitting;
            }
            if (what == 1) {
                return bestQuestion();
            }
            if (what >= 2 && what < 2 + SIX) {
                return sureOf(what - 2);
            }
            return what >= 10 && what - 10 < fitting ? fit[what - 10] : MISSING;
        }

        private int sureOf(int trait) {
            int sure = NONE;
            for (int i = 0; i < fitting; i++) {
                int level = sumOf(fit[i], 1 << trait);
                if (sure != NONE && level != sure) {
                    return NONE;
                }
                sure = level;
            }
            return sure;
        }

        private int bestQuestion() {
            compareAll();
            int least = fitting + 1;
            int question = NONE;
            for (int pair = 0; pair < SIX * SIX && fitting > 0; pair++) {
                int greater = Math.max(more[pair], fitting - more[pair]);
                if (pair / SIX != pair % SIX && greater < least) {
                    least = greater;
                    question = 10 * (pair / SIX) + pair % SIX;
                }
            }
            return question;
        }

        /** Of each two TRAITS, in how many that FIT the first one is LIKED more. */
        private void compareAll() {
            Arrays.fill(more, 0);
            for (int i = 0; i < fitting; i++) {
                for (int trait = 0; trait < SIX; trait++) {
                    levels[trait] = sumOf(fit[i], 1 << trait);
                }
                for (int trait = 1; trait < SIX; trait++) {
                    for (int other = 0; other < trait; other++) {
                        if (levels[trait] > levels[other]) {
                            more[trait * SIX + other]++;
                        } else if (levels[trait] < levels[other]) {
                            more[other * SIX + trait]++;
                        }
                    }
                }
            }
        }

        int preferring(int a, int b) {
            int preferring = 0;
            for (int i = 0; i < fitting; i++) {
                if (sumOf(fit[i], a) > sumOf(fit[i], b)) {
                    preferring++;
                }
            }
            return preferring;
        }

        int leastSum() {
            int least = NONE;
            for (int i = 0; i < fitting; i++) {
                int sum = sumOf(fit[i], ALL);
                least = least == NONE ? sum : Math.min(least, sum);
            }
            return least;
        }

        int greatestSum() {
            int greatest = NONE;
            for (int i = 0; i < fitting; i++) {
                greatest = Math.max(greatest, sumOf(fit[i], ALL));
            }
            return greatest;
        }
    }
}
