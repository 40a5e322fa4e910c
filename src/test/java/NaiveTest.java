import java.util.ArrayList;
import java.util.List;
import java.util.Random;

/** Promises 6 to 38 on COUNTIES, YEARS and LOGS by chance, each answer held against the naive one. */
public final class NaiveTest {
    private static final int NONE = PointedBench.NONE;
    private static final Random R = new Random(20261118);

    public static void main(String[] args) {
        for (int i = 0; i < 250; i++) {
            oneCounty(Naive.random(R), i);
        }
        for (int i = 0; i < 120; i++) {
            oneLog();
        }
        Calls.close("NaiveTest");
    }

    private static void pair(String call, long many, long which, int[] due) {
        Calls.due(call + ", how many", many, due == null ? NONE : due[0]);
        Calls.due(call + ", which", which, due == null ? NONE : due[1]);
    }

    private static void part(String call, long n, long d, long[] due) {
        Calls.due(call + ", N", n, due == null ? NONE : due[0]);
        Calls.due(call + ", D", d, due == null ? NONE : due[1]);
    }

    private static void oneCounty(Naive n, int run) {
        String text = n.text(R);
        if (text.length() > 600) {
            return;
        }
        PointedBench x = Calls.withCounty(text);
        told(x, n, text);
        benches(x, n, text);
        ofMen(x, n, text);
        ofTwoMen(x, n, text);
        ofChildren(x, n, text);
        ofAll(x, n, text);
        for (int i = 0; i < 3; i++) {
            oneYear(x, n, text, i);
        }
        for (int i = 0; i < 6; i++) {
            oneDrawn(x, n, text);
        }
        told(x, n, text);
    }

    private static void told(PointedBench x, Naive n, String text) {
        Calls.due("men of " + text, x.county(0, 0), n.men.size());
        Calls.due("children of " + text, x.county(0, 1), n.children.size());
        for (int i = 0; i < 6; i++) {
            boolean man = i < n.men.size();
            boolean child = i < n.children.size();
            Calls.due("kindness in " + text, x.county(0, 10 + i), man ? n.men.get(i).kindness : NONE);
            Calls.due("traits in " + text, x.county(0, 20 + i), man ? Naive.bits(n.men.get(i).has) : NONE);
            Calls.due("age in " + text, x.county(0, 30 + i), child ? n.children.get(i).age : NONE);
            Calls.due("term in " + text, x.county(0, 40 + i), child ? n.children.get(i).term : NONE);
            Calls.due("fears in " + text, x.county(0, 50 + i), child ? Naive.bits(n.children.get(i).fears) : NONE);
            for (int t = 0; t < 6; t++) {
                Calls.due("likes in " + text, x.county(0, 100 + 10 * i + t), child ? n.children.get(i).likes[t] : NONE);
            }
        }
    }

    private static void benches(PointedBench x, Naive n, String text) {
        for (int bench = 0; bench < 64; bench++) {
            Calls.due("picked(" + bench + ") of " + text, x.picked(0, bench), n.picked(bench));
        }
    }

    private static void ofMen(PointedBench x, Naive n, String text) {
        List<Integer> runoff = n.runoff();
        List<Integer> kindest = n.kindest();
        for (int m = 0; m < 6; m++) {
            String of = m + " of " + text;
            if (m >= n.men.size()) {
                Calls.due("runoff " + of, x.runoff(0, m), NONE);
                Calls.due("kindest " + of, x.kindest(0, m), NONE);
                Calls.due("benches " + of, x.benches(0, m), NONE);
                Calls.due("score " + of, x.best(0, 10 + m), -2);
                Calls.due("freed " + of, x.freed(0, m), NONE);
                pair("show " + of, x.show(0, m, false), x.show(0, m, true), null);
                pair("bench " + of, x.bench(0, m, false), x.bench(0, m, true), null);
                pair("fewest " + of, x.fewest(0, m, false), x.fewest(0, m, true), null);
                part("quiet " + of, x.quiet(0, m, 1, true, false), x.quiet(0, m, 1, false, true), null);
                part("liked " + of, x.liked(0, m, false), x.liked(0, m, true), null);
                continue;
            }
            pair("show " + of, x.show(0, m, false), x.show(0, m, true), n.show(m));
            pair("bench " + of, x.bench(0, m, false), x.bench(0, m, true), n.bench(m, true));
            pair("fewest " + of, x.fewest(0, m, false), x.fewest(0, m, true), n.bench(m, false));
            Calls.due("benches " + of, x.benches(0, m), n.benchesOf(m).size());
            for (int years = 1; years <= 3; years++) {
                part("quiet " + years + " " + of, x.quiet(0, m, years, false, false), x.quiet(0, m, years, false, true),
                    n.quiet(m, years, false));
                part("quiet all " + years + " " + of, x.quiet(0, m, years, true, false),
                    x.quiet(0, m, years, true, true), n.quiet(m, years, true));
            }
            Calls.due("score " + of, x.best(0, 10 + m), n.score(m));
            Calls.due("kindest " + of, x.kindest(0, m), kindest.get(m));
            Calls.due("freed " + of, x.freed(0, m), n.freed(m));
            part("liked " + of, x.liked(0, m, false), x.liked(0, m, true), n.children.isEmpty() ? null : n.liked(m));
            Calls.due("runoff " + of, x.runoff(0, m), runoff.get(m));
            List<Integer> agenda = n.agenda(m);
            for (int k = 0; k < 6; k++) {
                Calls.due("agenda at " + k + " " + of, x.agenda(0, m, k),
                    agenda == null || k >= n.men.size() ? NONE : agenda.get(k));
            }
        }
    }

    private static void ofTwoMen(PointedBench x, Naive n, String text) {
        for (int a = 0; a < n.men.size(); a++) {
            for (int b = 0; b < n.men.size(); b++) {
                String of = a + ", " + b + " of " + text;
                Calls.due("duel " + of, x.duel(0, a, b), a == b ? NONE : n.duel(a, b));
                Calls.due("trade " + of, x.trade(0, a, b), a == b ? NONE : n.trade(a, b));
                for (int k = 0; k <= (R.nextInt(12) == 0 ? 4 : 2); k++) {
                    int[] due = a == b ? new int[] {-9, -9} : n.rivals(a, b, k, a);
                    pair("rivals " + k + " " + of, x.rivals(0, a, b, k, false), x.rivals(0, a, b, k, true), due);
                }
            }
        }
    }

    private static void ofChildren(PointedBench x, Naive n, String text) {
        int[] wings = n.wings();
        Calls.due("wings of " + text, x.wings(0, NONE), wings[n.children.size()]);
        for (int c = 0; c < 6; c++) {
            String of = c + " of " + text;
            boolean child = c < n.children.size();
            boolean votes = child && n.children.get(c).votes();
            part("power " + of, x.power(0, c, false), x.power(0, c, true), votes ? n.power(c) : null);
            Calls.due("lies " + of, x.lies(0, c), votes ? n.lies(c) : NONE);
            Calls.due("wings " + of, x.wings(0, c), child ? wings[c] : NONE);
            for (int m = 0; m < 6; m++) {
                int[] bun = child && m < n.men.size() ? n.bun(c, m) : null;
                pair("bun " + m + " " + of, x.bun(0, c, m, false), x.bun(0, c, m, true), bun);
                boolean both = child && m < n.children.size();
                Calls.due("unlike " + m + " " + of, x.unlike(0, c, m), both ? n.unlike(c, m) : NONE);
            }
        }
    }

    private static void ofAll(PointedBench x, Naive n, String text) {
        pair("ban of " + text, x.ban(0, false), x.ban(0, true), n.ban());
        Calls.due("best of " + text, x.best(0, 0), n.best());
        Calls.due("sweetest of " + text, x.best(0, 1), n.sweetest());
        Calls.due("rarest of " + text, x.best(0, 2), n.rarest());
        Calls.due("twins of " + text, x.best(0, 3), n.twins());
        pair("guards of " + text, x.best(0, 4), x.best(0, 5), n.guards());
        Calls.due("longest of " + text, x.best(0, 6), n.longest());
        pair("gang of " + text, x.gang(0, false), x.gang(0, true), n.gang());
        for (int years = 0; years <= 30; years++) {
            Naive then = n.later(years);
            Calls.due("later " + years + " of " + text, x.later(0, years, false), then.votersBits());
            Calls.due("later who " + years + " of " + text, x.later(0, years, true), then.picked(63));
        }
    }

    private static List<int[]> randomDeeds(Naive n) {
        List<int[]> deeds = new ArrayList<>();
        int size = R.nextInt(41);
        int men = Math.max(1, n.men.size());
        int children = Math.max(1, n.children.size());
        for (int k = 0; k < size; k++) {
            int kind = R.nextInt(7);
            boolean wild = R.nextInt(60) == 0;
            int who = R.nextInt(wild ? 6 : kind < 2 ? men : children);
            deeds.add(new int[] {kind, kind < 5 ? who : NONE, kind < 4 ? R.nextInt(6) : NONE,
                kind == 3 ? 1 + R.nextInt(9) : NONE});
            if (kind == 4 && R.nextInt(3) != 0) {
                deeds.remove(deeds.size() - 1);
            }
        }
        return deeds;
    }

    private static String textOf(List<int[]> deeds) {
        String[] words = {"show", "hide", "scare", "treat", "out", "pick", "year"};
        StringBuilder text = new StringBuilder();
        for (int[] deed : deeds) {
            text.append(words[deed[0]]);
            for (int i = 1; i < 4; i++) {
                text.append(deed[i] == NONE ? "" : " " + deed[i]);
            }
            text.append(';');
        }
        return text.toString();
    }

    private static void oneYear(PointedBench x, Naive told, String text, int at) {
        List<int[]> deeds = randomDeeds(told);
        String year = textOf(deeds);
        Calls.due("text of " + year, Calls.read(x, 1, at == 0 ? NONE : 0, year), 0);
        Naive n = told.copy();
        String of = " of " + year + " in " + text;
        int first = NONE;
        int changes = 0;
        int shown = 0;
        int scared = 0;
        int[] reign = new int[7];
        int[] fickle = new int[6];
        int end = deeds.size();
        states(x, n, 0, of);
        for (int k = 0; k < deeds.size(); k++) {
            Naive ahead = n.copy();
            int[] d = deeds.get(k);
            Calls.due("deed " + k + of, x.deed(0, k, 0), d[0]);
            if (!n.act(d[0], d[1], d[2], d[3])) {
                end = k;
                break;
            }
            states(x, n, k + 1, of);
            first = first == NONE && n.gaoler != 6 ? k : first;
            changes += n.gaoler != ahead.gaoler ? 1 : 0;
            reign[n.gaoler] += d[0] == 6 ? 1 : 0;
            shown += d[0] == 0 && !ahead.men.get(d[1]).has[d[2]] ? 1 : 0;
            scared += d[0] == 2 && !ahead.children.get(d[1]).fears[d[2]] ? 1 : 0;
            for (int c = 0; c < n.children.size(); c++) {
                fickle[c] += n.points(c) != ahead.points(c) ? 1 : 0;
            }
        }
        reign[6] = 0;
        Calls.due("till" + of, x.till(0, 0), end);
        Calls.due("state beyond" + of, x.state(0, 0, end + 1, 0), NONE);
        Calls.due("first" + of, x.after(0, 0, 0), first);
        Calls.due("changes" + of, x.after(0, 0, 1), changes);
        Calls.due("reign" + of, x.after(0, 0, 2), mostOf(reign));
        Calls.due("fickle" + of, x.after(0, 0, 3), mostOf(fickle));
        Calls.due("shown" + of, x.after(0, 0, 4), shown);
        Calls.due("scared" + of, x.after(0, 0, 5), scared);
    }

    private static int mostOf(int[] times) {
        int most = NONE;
        for (int i = 0; i < 6; i++) {
            most = times[i] > 0 && (most == NONE || times[i] > times[most]) ? i : most;
        }
        return most;
    }

    private static void states(PointedBench x, Naive n, int k, String of) {
        for (int what = 0; what < 160; what++) {
            Calls.due("state " + k + ", " + what + of, x.state(0, 0, k, what), n.state(what));
        }
    }

    private static void oneDrawn(PointedBench x, Naive told, String text) {
        int seed = R.nextInt();
        int times = R.nextInt(61);
        Naive n = told.drawn(seed, times);
        for (int what = 0; what < 160; what++) {
            Calls.due("drawn " + seed + ", " + times + ", " + what + " of " + text, x.drawn(0, seed, times, what),
                n.state(what));
        }
    }

    private static void oneLog() {
        List<int[]> facts = new ArrayList<>();
        StringBuilder text = new StringBuilder();
        int size = R.nextInt(9);
        for (int k = 0; k < size; k++) {
            int[] fact = {R.nextInt(2), R.nextInt(64), R.nextInt(64)};
            facts.add(fact);
            text.append(fact[0] == 0 ? "prefers " : "not ").append(fact[1]).append(' ').append(fact[2]).append(';');
        }
        PointedBench x = Calls.withLog(text.toString());
        List<int[]> fit = Naive.fitting(facts);
        Calls.due("fits of " + text, x.fits(0, 0), fit.size());
        Calls.due("ask of " + text, x.fits(0, 1), Naive.ask(fit));
        for (int t = 0; t < 6; t++) {
            int trait = t;
            long kinds = fit.stream().map(l -> l[trait]).distinct().count();
            Calls.due("sure " + t + " of " + text, x.fits(0, 2 + t), kinds == 1 ? fit.get(0)[t] : NONE);
        }
        for (int k = 0; k < fit.size(); k++) {
            Calls.due("fit " + k + " of " + text, x.fits(0, 10 + k), Naive.number(fit.get(k)));
        }
        Calls.due("beyond of " + text, x.fits(0, 10 + fit.size()), -2);
        Calls.due("8 of " + text, x.fits(0, 8), -2);
        Calls.due("9 of " + text, x.fits(0, 9), -2);
        for (int i = 0; i < 10; i++) {
            int a = R.nextInt(64);
            int b = R.nextInt(64);
            long more = fit.stream().filter(l -> Naive.sum(l, a) > Naive.sum(l, b)).count();
            part("odds " + a + ", " + b + " of " + text, x.odds(0, a, b, false), x.odds(0, a, b, true),
                fit.isEmpty() ? null : Naive.fraction(more, fit.size()));
        }
        Calls.due("low of " + text, x.low(0, false), fit.stream().mapToInt(l -> Naive.sum(l, 63)).min().orElse(NONE));
        Calls.due("high of " + text, x.low(0, true), fit.stream().mapToInt(l -> Naive.sum(l, 63)).max().orElse(NONE));
    }
}
