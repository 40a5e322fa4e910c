import java.math.BigInteger;
import java.util.ArrayList;
import java.util.Arrays;
import java.util.List;
import java.util.Random;
import java.util.function.IntPredicate;

/**
 * The document's Terms 2 to 6 written out once more, by trying all there is and without a thought for speed or room:
 * what the class answers is held against it.
 */
final class Naive {
    static final int NONE = -1;

    static final class Man {
        int kindness;
        boolean[] has = new boolean[6];
    }

    static final class Child {
        int age;
        int term;
        boolean[] fears = new boolean[6];
        int[] likes = new int[6];

        boolean votes() {
            return age <= 12 && term > 0;
        }

        boolean fearsOneOf(Man man) {
            for (int t = 0; t < 6; t++) {
                if (man.has[t] && fears[t]) {
                    return true;
                }
            }
            return false;
        }

        int likesOf(Man man) {
            int sum = 0;
            for (int t = 0; t < 6; t++) {
                sum += man.has[t] ? likes[t] : 0;
            }
            return sum;
        }

        boolean puts(Man a, Man b) {
            return !fearsOneOf(a) && (fearsOneOf(b) || likesOf(a) > likesOf(b));
        }
    }

    List<Man> men = new ArrayList<>();
    List<Child> children = new ArrayList<>();
    int year = 0;
    int gaoler = 6;
    int picks = 0;
    int outs = 0;

    Naive copy() {
        Naive other = new Naive();
        for (Man man : men) {
            Man m = new Man();
            m.kindness = man.kindness;
            m.has = man.has.clone();
            other.men.add(m);
        }
        for (Child child : children) {
            Child c = new Child();
            c.age = child.age;
            c.term = child.term;
            c.fears = child.fears.clone();
            c.likes = child.likes.clone();
            other.children.add(c);
        }
        other.year = year;
        other.gaoler = gaoler;
        other.picks = picks;
        other.outs = outs;
        return other;
    }

    static Naive random(Random r) {
        Naive n = new Naive();
        int men = r.nextInt(8) == 0 ? r.nextInt(2) : 1 + r.nextInt(6);
        int children = r.nextInt(8) == 0 ? r.nextInt(2) : 1 + r.nextInt(6);
        int dense = 1 + r.nextInt(4);
        int fearful = 3 + r.nextInt(20);
        int loud = r.nextInt(3) == 0 ? 9 : 1 + r.nextInt(3);
        for (int i = 0; i < men; i++) {
            Man m = new Man();
            m.kindness = r.nextInt(10);
            for (int t = 0; t < 6; t++) {
                m.has[t] = r.nextInt(dense + 1) == 0;
            }
            n.men.add(m);
        }
        for (int i = 0; i < children; i++) {
            Child c = new Child();
            c.age = r.nextInt(4) == 0 ? r.nextInt(21) : r.nextInt(14);
            c.term = r.nextInt(5) == 0 ? 0 : 1 + r.nextInt(30);
            for (int t = 0; t < 6; t++) {
                c.fears[t] = r.nextInt(fearful) == 0;
                c.likes[t] = r.nextInt(3) == 0 ? 0 : r.nextInt(loud + 1);
            }
            n.children.add(c);
        }
        return n;
    }

    /** Its text, lines in any order that keeps MEN and CHILDREN in theirs. */
    String text(Random r) {
        List<String> people = new ArrayList<>();
        List<String> rest = new ArrayList<>();
        for (int i = 0; i < men.size(); i++) {
            people.add("man " + men.get(i).kindness + ";");
            for (int t = 0; t < 6; t++) {
                if (men.get(i).has[t]) {
                    rest.add("has " + i + " " + t + ";");
                }
            }
        }
        for (int i = 0; i < children.size(); i++) {
            people.add("child " + children.get(i).age + " " + children.get(i).term + ";");
            for (int t = 0; t < 6; t++) {
                if (children.get(i).fears[t]) {
                    rest.add("fears " + i + " " + t + ";");
                }
                if (children.get(i).likes[t] > 0) {
                    rest.add("likes " + i + " " + t + " " + children.get(i).likes[t] + ";");
                }
            }
        }
        java.util.Collections.shuffle(rest, r);
        List<String> all = new ArrayList<>();
        if (r.nextBoolean()) {
            all.addAll(rest);
            all.addAll(people);
        } else {
            all.addAll(people);
            all.addAll(rest);
        }
        String text = String.join("", all);
        // The tape has 600 bytes: the blanks can be left out behind words.
        return text.length() > 600 ? text.replaceAll("([a-z]) ", "$1") : text;
    }

    int points(int child, IntPredicate stands) {
        int to = 6;
        for (int m = men.size() - 1; m >= 0; m--) {
            Child c = children.get(child);
            if (stands.test(m) && !c.fearsOneOf(men.get(m))
                && (to == 6 || c.likesOf(men.get(m)) >= c.likesOf(men.get(to)))) {
                to = m;
            }
        }
        return to;
    }

    int points(int child) {
        return points(child, m -> true);
    }

    int votersBits() {
        int bits = 0;
        for (int c = 0; c < children.size(); c++) {
            bits |= children.get(c).votes() ? 1 << c : 0;
        }
        return bits;
    }

    int picked(int bench) {
        return pickedIf(bench, NONE, NONE);
    }

    /** Who is PICKED, a CHILD POINTING to a MAN it may not mean. */
    int pickedIf(int bench, int liar, int lie) {
        int[] count = new int[7];
        for (int c = 0; c < children.size(); c++) {
            if ((bench & 1 << c) != 0 && children.get(c).votes()) {
                count[c == liar ? lie : points(c)]++;
            }
        }
        int picked = 6;
        for (int m = 5; m >= 0; m--) {
            if (count[m] > 0 && (picked == 6 || count[m] >= count[picked])) {
                picked = m;
            }
        }
        return picked;
    }

    // ---- DEEDS ----

    boolean act(int kind, int a, int b, int n) {
        if (kind <= 1 && a >= men.size() || kind >= 2 && kind <= 4 && a >= children.size()) {
            return false;
        }
        switch (kind) {
            case 0 -> men.get(a).has[b] = true;
            case 1 -> men.get(a).has[b] = false;
            case 2 -> children.get(a).fears[b] = true;
            case 3 -> children.get(a).likes[b] = Math.min(9, children.get(a).likes[b] + n);
            case 4 -> {
                Child c = children.get(a);
                if (c.term == 0 || gaoler == 6 || men.get(gaoler).kindness * 10 < c.term) {
                    return false;
                }
                c.term = 0;
                outs++;
            }
            case 5 -> {
                gaoler = picked(63);
                picks++;
            }
            default -> {
                if (year == 99) {
                    return false;
                }
                year++;
                for (Child c : children) {
                    c.age = Math.min(99, c.age + 1);
                    c.term = c.term > 0 ? c.term - 1 : 0;
                }
            }
        }
        return true;
    }

    int state(int what) {
        int c = what >= 100 ? (what - 100) / 10 : what % 10;
        int t = what % 10;
        boolean isChild = what >= 0 && c < children.size();
        if (what >= 100) {
            return isChild && t < 6 ? children.get(c).likes[t] : NONE;
        }
        if (what >= 10 && what < 20) {
            return t < men.size() ? bits(men.get(t).has) : NONE;
        }
        if (what >= 20) {
            if (!isChild) {
                return NONE;
            }
            return switch (what / 10) {
                case 2 -> children.get(c).age;
                case 3 -> children.get(c).term;
                case 4 -> bits(children.get(c).fears);
                case 5 -> points(c);
                default -> NONE;
            };
        }
        return switch (what) {
            case 0 -> year;
            case 1 -> gaoler;
            case 2 -> picks;
            case 3 -> votersBits();
            case 4 -> picked(63);
            case 5 -> outs;
            default -> NONE;
        };
    }

    static int bits(boolean[] row) {
        int bits = 0;
        for (int t = 0; t < 6; t++) {
            bits |= row[t] ? 1 << t : 0;
        }
        return bits;
    }

    Naive drawn(int seed, int n) {
        Naive now = copy();
        long[] x = {seed & 0xffffffffL};
        for (int i = 0; i < n; i++) {
            int lot = draw(x, 10);
            if (lot <= 2 && !men.isEmpty()) {
                int a = draw(x, men.size());
                int t = draw(x, 6);
                now.act(lot == 2 ? 1 : 0, a, t, 0);
            } else if (lot >= 3 && lot <= 5 && !children.isEmpty()) {
                int a = draw(x, children.size());
                if (lot == 5) {
                    now.act(4, a, 0, 0);
                } else {
                    int t = draw(x, 6);
                    now.act(lot - 1, a, t, lot == 4 ? 1 + draw(x, 3) : 0);
                }
            } else if (lot >= 6) {
                now.act(lot <= 7 ? 5 : 6, 0, 0, 0);
            }
        }
        return now;
    }

    private static int draw(long[] x, int n) {
        x[0] = BigInteger.valueOf(x[0]).multiply(BigInteger.valueOf(1103515245)).add(BigInteger.valueOf(12345))
            .mod(BigInteger.ONE.shiftLeft(32)).longValueExact();
        return (int) (x[0] / 65536 % n);
    }

    // ---- Term 3 ----

    /** How many and which; null if by none. */
    int[] show(int man) {
        int[] best = null;
        for (int some = 0; some < 64; some++) {
            if ((some & bits(men.get(man).has)) == 0) {
                Naive n = copy();
                for (int t = 0; t < 6; t++) {
                    n.men.get(man).has[t] |= (some & 1 << t) != 0;
                }
                if (n.picked(63) == man && (best == null || Integer.bitCount(some) < best[0])) {
                    best = new int[] {Integer.bitCount(some), some};
                }
            }
        }
        return best;
    }

    List<Integer> benchesOf(int man) {
        List<Integer> benches = new ArrayList<>();
        for (int bench = 0; bench < 64; bench++) {
            if ((bench | votersBits()) == votersBits() && picked(bench) == man) {
                benches.add(bench);
            }
        }
        return benches;
    }

    int[] bench(int man, boolean greatest) {
        int[] best = null;
        for (int bench : benchesOf(man)) {
            int size = Integer.bitCount(bench);
            if (best == null || (greatest ? size > best[0] : size < best[0])) {
                best = new int[] {size, bench};
            }
        }
        return best;
    }

    static long[] fraction(BigInteger n, BigInteger d) {
        BigInteger common = n.gcd(d);
        return new long[] {n.divide(common).longValueExact(), d.divide(common).longValueExact()};
    }

    static long[] fraction(long n, long d) {
        return fraction(BigInteger.valueOf(n), BigInteger.valueOf(d));
    }

    long[] power(int child) {
        int n = 0;
        int d = 0;
        for (int bench = 0; bench < 64; bench++) {
            if ((bench & 1 << child) == 0 && (bench | votersBits()) == votersBits()) {
                d++;
                n += picked(bench) != picked(bench | 1 << child) ? 1 : 0;
            }
        }
        return fraction(n, d);
    }

    int[] ban() {
        int[] best = null;
        for (int t = 0; t < 6; t++) {
            Naive n = copy();
            for (Man man : n.men) {
                man.has[t] = false;
            }
            int many = 0;
            for (int c = 0; c < children.size(); c++) {
                many += n.points(c) != points(c) ? 1 : 0;
            }
            if (best == null || many > best[1]) {
                best = new int[] {t, many};
            }
        }
        return best;
    }

    /** How much, and what is shown first (NONE: nothing is to be). */
    int[] rivals(int mover, int other, int n, int first) {
        if (n == 0) {
            int picked = picked(63);
            int second = mover == first ? other : mover;
            return new int[] {picked == first ? 1 : picked == second ? -1 : 0, NONE};
        }
        int[] best = null;
        for (int t = 0; t <= 6; t++) {
            if (t < 6 && men.get(mover).has[t]) {
                continue;
            }
            if (t < 6) {
                men.get(mover).has[t] = true;
            }
            int much = rivals(other, mover, n - 1, first)[0];
            if (t < 6) {
                men.get(mover).has[t] = false;
            }
            if (best == null || (mover == first ? much > best[0] : much < best[0])) {
                best = new int[] {much, t};
            }
        }
        return best;
    }

    /** QUIET by years: left fathers are in, of which some escape each year. */
    long[] quiet(int man, int n, boolean all) {
        int fathers = 0;
        for (Child c : children) {
            fathers += c.term > 0 ? 1 : 0;
        }
        int kind = men.get(man).kindness;
        if (!all) {
            return fraction(BigInteger.valueOf(10 - kind).pow(fathers), BigInteger.TEN.pow(fathers));
        }
        return fraction(waysAllGone(fathers, kind, n), BigInteger.TEN.pow(fathers * n));
    }

    /** Of 10 ^ (n * left) ways, those by which nobody is left (those away have ten ways each year, too). */
    private static BigInteger waysAllGone(int left, int kind, int n) {
        if (left == 0) {
            return BigInteger.ONE;
        }
        if (n == 0) {
            return BigInteger.ZERO;
        }
        BigInteger ways = BigInteger.ZERO;
        for (int some = 0; some < 1 << left; some++) {
            int gone = Integer.bitCount(some);
            ways = ways.add(BigInteger.valueOf(kind).pow(gone).multiply(BigInteger.valueOf(10 - kind).pow(left - gone))
                .multiply(BigInteger.TEN.pow(gone * (n - 1))).multiply(waysAllGone(left - gone, kind, n - 1)));
        }
        return ways;
    }

    // ---- Term 6 ----

    int duel(int a, int b) {
        int n = 0;
        for (Child c : children) {
            n += c.votes() && c.puts(men.get(a), men.get(b)) ? 1 : 0;
        }
        return n;
    }

    int best() {
        for (int a = 0; a < men.size(); a++) {
            boolean beatsAll = true;
            for (int b = 0; b < men.size(); b++) {
                beatsAll &= a == b || duel(a, b) > duel(b, a);
            }
            if (beatsAll) {
                return a;
            }
        }
        return NONE;
    }

    int score(int man) {
        int sum = 0;
        for (int b = 0; b < men.size(); b++) {
            sum += b == man ? 0 : duel(man, b);
        }
        return sum;
    }

    List<Integer> runoff() {
        List<Integer> left = new ArrayList<>();
        for (int m = 0; m < men.size(); m++) {
            left.add(m);
        }
        List<Integer> gone = new ArrayList<>();
        while (left.size() > 1) {
            int[] votes = new int[7];
            for (int c = 0; c < children.size(); c++) {
                if (children.get(c).votes()) {
                    votes[points(c, left::contains)]++;
                }
            }
            int goes = left.get(0);
            for (int m : left) {
                if (votes[m] <= votes[goes]) {
                    goes = m;
                }
            }
            left.remove(Integer.valueOf(goes));
            gone.add(goes);
        }
        gone.addAll(left);
        return gone;
    }

    List<Integer> agenda(int man) {
        return agenda(man, new ArrayList<>());
    }

    private List<Integer> agenda(int man, List<Integer> ahead) {
        if (ahead.size() == men.size()) {
            int stays = ahead.get(0);
            for (int next : ahead) {
                if (next != stays && duel(next, stays) > duel(stays, next)) {
                    stays = next;
                }
            }
            return stays == man ? ahead : null;
        }
        for (int m = 0; m < men.size(); m++) {
            if (!ahead.contains(m)) {
                List<Integer> longer = new ArrayList<>(ahead);
                longer.add(m);
                List<Integer> found = agenda(man, longer);
                if (found != null) {
                    return found;
                }
            }
        }
        return null;
    }

    int lies(int child) {
        int now = picked(63);
        for (int m = 0; m < men.size() && now != 6; m++) {
            int then = pickedIf(63, child, m);
            if (then != 6 && children.get(child).puts(men.get(then), men.get(now))) {
                return m;
            }
        }
        return NONE;
    }

    int sweetest() {
        int[] sums = new int[6];
        for (Child c : children) {
            for (int t = 0; t < 6; t++) {
                sums[t] += c.likes[t];
            }
        }
        int best = 5;
        for (int t = 5; t >= 0; t--) {
            best = sums[t] >= sums[best] ? t : best;
        }
        return best;
    }

    int rarest() {
        int[] sums = new int[6];
        for (Man m : men) {
            for (int t = 0; t < 6; t++) {
                sums[t] += m.has[t] ? 1 : 0;
            }
        }
        int best = 5;
        for (int t = 5; t >= 0; t--) {
            best = sums[t] <= sums[best] ? t : best;
        }
        return best;
    }

    int twins() {
        int n = 0;
        for (Man a : men) {
            for (Man b : men) {
                n += a != b && Arrays.equals(a.has, b.has) ? 1 : 0;
            }
        }
        return n / 2;
    }

    int[] guards() {
        int[] best = null;
        for (int some = 0; some < 1 << men.size(); some++) {
            int have = 0;
            int all = 0;
            for (int m = 0; m < men.size(); m++) {
                all |= bits(men.get(m).has);
                have |= (some & 1 << m) != 0 ? bits(men.get(m).has) : 0;
            }
            if (have == all && (best == null || Integer.bitCount(some) < best[0])) {
                best = new int[] {Integer.bitCount(some), some};
            }
        }
        return best;
    }

    int longest() {
        return children.stream().mapToInt(c -> c.term).max().orElse(0);
    }

    int trade(int a, int b) {
        for (int both = 0; both < 60; both++) {
            int s = both / 10;
            int t = both % 10;
            if (t < 6 && men.get(a).has[s] && !men.get(b).has[s] && men.get(b).has[t] && !men.get(a).has[t]) {
                Naive n = copy();
                n.men.get(a).has[s] = false;
                n.men.get(b).has[s] = true;
                n.men.get(b).has[t] = false;
                n.men.get(a).has[t] = true;
                if (n.picked(63) == a) {
                    return both;
                }
            }
        }
        return NONE;
    }

    int[] gang() {
        int[] best = {0, 0};
        for (int m = 0; m < men.size(); m++) {
            int which = 0;
            for (int c = 0; c < children.size(); c++) {
                which |= points(c) == m ? 1 << c : 0;
            }
            if (Integer.bitCount(which) > best[0]) {
                best = new int[] {Integer.bitCount(which), which};
            }
        }
        return best;
    }

    List<Integer> kindest() {
        List<Integer> order = new ArrayList<>();
        for (int m = 0; m < men.size(); m++) {
            order.add(m);
        }
        order.sort((a, b) -> men.get(b).kindness - men.get(a).kindness);
        return order;
    }

    int freed(int man) {
        int bits = 0;
        for (int c = 0; c < children.size(); c++) {
            Naive n = copy();
            n.gaoler = man;
            bits |= n.act(4, c, 0, 0) ? 1 << c : 0;
        }
        return bits;
    }

    long[] liked(int man) {
        long sum = 0;
        for (Child c : children) {
            sum += c.likesOf(men.get(man));
        }
        return fraction(sum, children.size());
    }

    int unlike(int a, int b) {
        int sum = 0;
        for (int t = 0; t < 6; t++) {
            sum += Math.abs(children.get(a).likes[t] - children.get(b).likes[t]);
        }
        return sum;
    }

    int[] bun(int child, int man) {
        if (points(child) == man) {
            return new int[] {0, 0};
        }
        for (int more = 1; more <= 80; more++) {
            for (int t = 0; t < 6; t++) {
                Naive n = copy();
                n.children.get(child).likes[t] += more;
                if (n.points(child) == man) {
                    return new int[] {more, t};
                }
            }
        }
        return null;
    }

    /** The row of wings, and behind it how many. */
    int[] wings() {
        int[] best = null;
        int size = children.size();
        int rows = 1;
        for (int c = 0; c < size; c++) {
            rows *= 6;
        }
        for (int number = 0; number < rows; number++) {
            int[] row = new int[size + 1];
            int rest = number;
            int used = 0;
            boolean may = true;
            for (int c = size - 1; c >= 0; c--) {
                row[c] = rest % 6;
                rest /= 6;
                if (children.get(c).term == 0) {
                    may &= row[c] == 0;
                    row[c] = 6;
                } else {
                    used |= 1 << row[c];
                }
            }
            if (!may || best != null && Integer.bitCount(used) >= best[size]) {
                continue;
            }
            for (int a = 0; a < size; a++) {
                for (int b = 0; b < a; b++) {
                    may &= row[a] != row[b] || row[a] == 6
                        || (bits(children.get(a).fears) & bits(children.get(b).fears)) == 0;
                }
            }
            if (may) {
                row[size] = Integer.bitCount(used);
                best = row;
            }
        }
        return best;
    }

    Naive later(int n) {
        Naive then = copy();
        for (int i = 0; i < n; i++) {
            then.act(6, 0, 0, 0);
        }
        return then;
    }

    // ---- LOGS ----

    /** LIKINGS that FIT, rising; a FACT is a row: 0 or 1, TRAITS, TRAITS. */
    static List<int[]> fitting(List<int[]> facts) {
        List<int[]> fit = new ArrayList<>();
        for (int number = 0; number < 729; number++) {
            int[] likes = new int[6];
            int weight = 243;
            for (int t = 0; t < 6; t++) {
                likes[t] = number / weight % 3;
                weight /= 3;
            }
            boolean fits = true;
            for (int[] fact : facts) {
                fits &= sum(likes, fact[1]) > sum(likes, fact[2]) == (fact[0] == 0);
            }
            if (fits) {
                fit.add(likes);
            }
        }
        return fit;
    }

    static int number(int[] likes) {
        return 243 * likes[0] + 81 * likes[1] + 27 * likes[2] + 9 * likes[3] + 3 * likes[4] + likes[5];
    }

    static int sum(int[] likes, int bits) {
        int sum = 0;
        for (int t = 0; t < 6; t++) {
            sum += (bits & 1 << t) != 0 ? likes[t] : 0;
        }
        return sum;
    }

    static int ask(List<int[]> fit) {
        int best = NONE;
        long least = Long.MAX_VALUE;
        for (int both = 0; both < 60 && !fit.isEmpty(); both++) {
            int a = both / 10;
            int b = both % 10;
            if (b < 6 && a != b) {
                long more = fit.stream().filter(l -> l[a] > l[b]).count();
                long greater = Math.max(more, fit.size() - more);
                if (greater < least) {
                    least = greater;
                    best = both;
                }
            }
        }
        return best;
    }
}
