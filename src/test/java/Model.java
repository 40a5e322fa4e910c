import java.util.ArrayList;
import java.util.List;
import java.util.regex.Matcher;
import java.util.regex.Pattern;

/** All that the document promises, by a tape, lists of what was told, and Naive: an object to hold a whole run against. */
final class Model {
    private static final int NONE = -1;
    /** The first words of lines: a COUNTY's from 0 on, a YEAR's from 5 on, a LOG's from 12 on. */
    private static final List<String> WORDS = List.of("man", "child", "has", "fears", "likes", "show", "hide", "scare", "treat",
        "out", "pick", "year", "prefers", "not");
    private static final Pattern LINE = Pattern.compile("([a-z]+)((?:[ \n]*[0-9]+)*)[ \n]*;");

    private String tape = "";
    private int fault = 0;
    private int place = NONE;
    private List<Naive> counties = new ArrayList<>();
    private List<List<int[]>> years = new ArrayList<>();
    private List<List<int[]>> logs = new ArrayList<>();
    private final Model[] images = new Model[3];

    /** What a call is to answer; a boolean counts 1 or 0. */
    long answer(String call, Object[] values) {
        int[] n = new int[values.length];
        for (int i = 0; i < n.length; i++) {
            n[i] = values[i] instanceof Boolean b ? (b ? 1 : 0) : (Integer) values[i];
        }
        switch (call) {
            case "feed":
                return feed(n);
            case "end":
                return end(n[0]);
            case "text":
                return text(n[0], n[1]);
            case "fault":
                return n[0] == 0 ? fault : n[0] == 1 ? place : NONE;
            case "count":
                return n[0] == 0 ? counties.size() : n[0] == 1 ? years.size() : n[0] == 2 ? logs.size() : -2;
            case "image":
                return image(n[0]);
            case "again":
                return again(n[0]);
            case "deed":
                return line(of(years, n[0]), n[1], n[2], 4);
            case "fact":
                return line(of(logs, n[0]), n[1], n[2], 3);
            case "fits":
            case "odds":
            case "low":
                return ofLog(call, n);
            case "till":
            case "state":
            case "after":
                return ofYear(call, n);
            default:
                return ofCounty(call, n);
        }
    }

    private static <T> T of(List<T> list, int k) {
        return k >= 0 && k < list.size() ? list.get(k) : null;
    }

    private long feed(int[] five) {
        if (tape.length() > 580) {
            return NONE;
        }
        StringBuilder more = new StringBuilder(tape);
        for (int number : five) {
            for (int k = 3; k >= 0; k--) {
                more.append((char) (number >> 8 * k & 255));
            }
        }
        tape = more.toString();
        return tape.length();
    }

    private long end(int n) {
        if (n < 0 || n > tape.length()) {
            return NONE;
        }
        tape = tape.substring(0, n);
        return n;
    }

    private long text(int sort, int at) {
        String text = tape;
        tape = "";
        fault = 0;
        place = NONE;
        int size = sort == 0 ? counties.size() : sort == 1 ? years.size() : sort == 2 ? logs.size() : NONE;
        if (size == NONE || at != NONE && (at < 0 || at >= size) || at == NONE && size == 2) {
            return -2;
        }
        ReaderTest.Fault found = ReaderTest.expected(sort, text);
        fault = found.fault();
        place = found.place();
        if (fault != 0) {
            return NONE;
        }
        int to = at == NONE ? size : at;
        if (sort == 0) {
            put(counties, to, county(text));
        } else if (sort == 1) {
            put(years, to, lines(WORDS.indexOf("show"), text));
        } else {
            put(logs, to, lines(WORDS.indexOf("prefers"), text));
        }
        return to;
    }

    private static <T> void put(List<T> list, int at, T what) {
        if (at == list.size()) {
            list.add(what);
        } else {
            list.set(at, what);
        }
    }

    /** The lines of a text without a FAULT: which word, from the first of its sort on, and its NUMBERS. */
    private static List<int[]> lines(int firstWord, String text) {
        List<int[]> lines = new ArrayList<>();
        Matcher m = LINE.matcher(text);
        while (m.find()) {
            int[] line = {WORDS.indexOf(m.group(1)) - firstWord, NONE, NONE, NONE};
            Matcher numbers = Pattern.compile("[0-9]+").matcher(m.group(2));
            for (int i = 1; numbers.find(); i++) {
                line[i] = Integer.parseInt(numbers.group());
            }
            lines.add(line);
        }
        return lines;
    }

    private static Naive county(String text) {
        Naive n = new Naive();
        List<int[]> lines = lines(0, text);
        for (int[] line : lines) {
            if (line[0] == WORDS.indexOf("man")) {
                Naive.Man man = new Naive.Man();
                man.kindness = line[1];
                n.men.add(man);
            } else if (line[0] == WORDS.indexOf("child")) {
                Naive.Child child = new Naive.Child();
                child.age = line[1];
                child.term = line[2];
                n.children.add(child);
            }
        }
        for (int[] line : lines) {
            if (line[0] == WORDS.indexOf("has")) {
                n.men.get(line[1]).has[line[2]] = true;
            } else if (line[0] == WORDS.indexOf("fears")) {
                n.children.get(line[1]).fears[line[2]] = true;
            } else if (line[0] == WORDS.indexOf("likes")) {
                n.children.get(line[1]).likes[line[2]] = line[3];
            }
        }
        return n;
    }

    private static long line(List<int[]> lines, int k, int what, int parts) {
        if (lines == null) {
            return -2;
        }
        if (k == NONE && what == 0) {
            return lines.size();
        }
        int[] line = of(lines, k);
        return line == null || what < 0 || what >= parts ? -2 : line[what];
    }

    private long image(int k) {
        if (k < 0 || k > 2) {
            return 0;
        }
        images[k] = new Model();
        images[k].take(this);
        return 1;
    }

    private long again(int k) {
        if (k < 0 || k > 2 || images[k] == null) {
            return 0;
        }
        take(images[k]);
        return 1;
    }

    private void take(Model from) {
        tape = from.tape;
        fault = from.fault;
        place = from.place;
        counties = new ArrayList<>(from.counties);
        years = new ArrayList<>(from.years);
        logs = new ArrayList<>(from.logs);
    }

    private static long part(long[] fraction, int under) {
        return fraction[under];
    }

    private long ofLog(String call, int[] n) {
        List<int[]> log = of(logs, n[0]);
        List<int[]> fit = log == null ? new ArrayList<>() : Naive.fitting(log);
        if (call.equals("low")) {
            var sums = fit.stream().mapToInt(l -> Naive.sum(l, 63));
            return n[1] == 1 ? sums.max().orElse(NONE) : sums.min().orElse(NONE);
        }
        if (call.equals("odds")) {
            if (fit.isEmpty() || n[1] < 0 || n[1] > 63 || n[2] < 0 || n[2] > 63) {
                return NONE;
            }
            long more = fit.stream().filter(l -> Naive.sum(l, n[1]) > Naive.sum(l, n[2])).count();
            return part(Naive.fraction(more, fit.size()), n[3]);
        }
        int what = n[1];
        if (log == null || what < 0 || what == 8 || what == 9 || what - 10 >= fit.size()) {
            return -2;
        }
        if (what >= 10) {
            return Naive.number(fit.get(what - 10));
        }
        if (what < 2) {
            return what == 0 ? fit.size() : Naive.ask(fit);
        }
        return fit.stream().mapToInt(l -> l[what - 2]).distinct().count() == 1 ? fit.get(0)[what - 2] : NONE;
    }

    private long ofYear(String call, int[] n) {
        Naive told = of(counties, n[0]);
        List<int[]> deeds = of(years, n[1]);
        if (told == null || deeds == null) {
            return call.equals("after") ? -2 : NONE;
        }
        List<Naive> states = new ArrayList<>(List.of(told.copy()));
        for (int[] deed : deeds) {
            Naive next = states.get(states.size() - 1).copy();
            if (!next.act(deed[0], deed[1], deed[2], deed[3])) {
                break;
            }
            states.add(next);
        }
        if (call.equals("till")) {
            return states.size() - 1;
        }
        if (call.equals("state")) {
            Naive state = of(states, n[2]);
            return state == null || n[3] < 0 ? NONE : state.state(n[3]);
        }
        return n[2] < 0 || n[2] > 5 ? -2 : after(states, deeds, n[2]);
    }

    private static long after(List<Naive> states, List<int[]> deeds, int what) {
        int first = NONE;
        int[] many = new int[6];
        int[] reign = new int[6];
        int[] fickle = new int[6];
        for (int k = 0; k + 1 < states.size(); k++) {
            Naive ahead = states.get(k);
            Naive behind = states.get(k + 1);
            int[] deed = deeds.get(k);
            first = first == NONE && behind.gaoler != 6 ? k : first;
            many[1] += ahead.gaoler != behind.gaoler ? 1 : 0;
            many[4] += deed[0] == 0 && !ahead.men.get(deed[1]).has[deed[2]] ? 1 : 0;
            many[5] += deed[0] == 2 && !ahead.children.get(deed[1]).fears[deed[2]] ? 1 : 0;
            if (deed[0] == 6 && ahead.gaoler != 6) {
                reign[ahead.gaoler]++;
            }
            for (int c = 0; c < ahead.children.size(); c++) {
                fickle[c] += ahead.points(c) != behind.points(c) ? 1 : 0;
            }
        }
        return what == 0 ? first : what == 2 ? mostOf(reign) : what == 3 ? mostOf(fickle) : many[what];
    }

    private static int mostOf(int[] times) {
        int most = NONE;
        for (int i = 5; i >= 0; i--) {
            most = times[i] > 0 && (most == NONE || times[i] >= times[most]) ? i : most;
        }
        return most;
    }

    private long ofCounty(String call, int[] n) {
        Naive c = of(counties, n[0]);
        if (c == null) {
            return call.equals("rivals") ? -9 : call.equals("best") ? -2 : NONE;
        }
        switch (call) {
            case "county":
                return told(c, n[1]);
            case "picked":
                return n[1] < 0 || n[1] > 63 ? NONE : c.picked(n[1]);
            case "ban":
                return c.ban()[n[1]];
            case "gang":
                return c.gang()[n[1]];
            case "kindest":
            case "runoff":
                Integer who = of(call.equals("runoff") ? c.runoff() : c.kindest(), n[1]);
                return who == null ? NONE : who;
            case "wings":
                return n[1] < NONE || n[1] >= c.children.size() ? NONE : c.wings()[n[1] == NONE ? c.children.size() : n[1]];
            case "later":
                return n[1] < 0 || n[1] > 30 ? NONE : n[2] == 1 ? c.later(n[1]).picked(63) : c.later(n[1]).votersBits();
            case "drawn":
                return n[2] < 0 || n[2] > 60 || n[3] < 0 ? NONE : c.drawn(n[1], n[2]).state(n[3]);
            case "best":
                return best(c, n[1]);
            case "power":
            case "lies":
            case "unlike":
            case "bun":
                return ofChild(call, c, n);
            default:
                return ofMan(call, c, n);
        }
    }

    private static long told(Naive c, int what) {
        int who = what % 10;
        if (what == 0 || what == 1) {
            return what == 0 ? c.men.size() : c.children.size();
        }
        if (what >= 10 && what < 20) {
            return who < c.men.size() ? c.men.get(who).kindness : NONE;
        }
        // Behind these each tells of as state() does, ten less.
        return what < 20 || what >= 60 && what < 100 ? NONE : c.state(what >= 100 ? what : what - 10);
    }

    private static long best(Naive c, int what) {
        switch (what) {
            case 0:
                return c.best();
            case 1:
                return c.sweetest();
            case 2:
                return c.rarest();
            case 3:
                return c.twins();
            case 4:
            case 5:
                return c.guards()[what - 4];
            case 6:
                return c.longest();
            default:
                return what >= 10 && what - 10 < c.men.size() ? c.score(what - 10) : -2;
        }
    }

    private static long ofChild(String call, Naive c, int[] n) {
        Naive.Child child = of(c.children, n[1]);
        if (child == null) {
            return NONE;
        }
        if (call.equals("unlike")) {
            return of(c.children, n[2]) == null ? NONE : c.unlike(n[1], n[2]);
        }
        if (call.equals("bun")) {
            int[] bun = of(c.men, n[2]) == null ? null : c.bun(n[1], n[2]);
            return bun == null ? NONE : bun[n[3]];
        }
        if (!child.votes()) {
            return NONE;
        }
        return call.equals("lies") ? c.lies(n[1]) : part(c.power(n[1]), n[2]);
    }

    private static long ofMan(String call, Naive c, int[] n) {
        boolean isThere = of(c.men, n[1]) != null;
        if (call.equals("rivals")) {
            boolean two = isThere && of(c.men, n[2]) != null && n[1] != n[2];
            return !two || n[3] < 0 || n[3] > 4 ? -9 : c.rivals(n[1], n[2], n[3], n[1])[n[4]];
        }
        if (!isThere) {
            return NONE;
        }
        switch (call) {
            case "show":
                return which(c.show(n[1]), n[2]);
            case "bench":
                return which(c.bench(n[1], true), n[2]);
            case "fewest":
                return which(c.bench(n[1], false), n[2]);
            case "benches":
                return c.benchesOf(n[1]).size();
            case "freed":
                return c.freed(n[1]);
            case "quiet":
                return n[2] < 1 || n[2] > 3 ? NONE : part(c.quiet(n[1], n[2], n[3] == 1), n[4]);
            case "liked":
                return c.children.isEmpty() ? NONE : part(c.liked(n[1]), n[2]);
            case "agenda":
                Integer stands = c.agenda(n[1]) == null ? null : of(c.agenda(n[1]), n[2]);
                return stands == null ? NONE : stands;
            case "duel":
            case "trade":
                boolean two = of(c.men, n[2]) != null && n[1] != n[2];
                return !two ? NONE : call.equals("duel") ? c.duel(n[1], n[2]) : c.trade(n[1], n[2]);
            default:
                throw new IllegalStateException(call);
        }
    }

    private static long which(int[] both, int which) {
        return both == null ? NONE : both[which];
    }
}
