import java.io.IOException;
import java.nio.file.Files;
import java.nio.file.Path;
import java.util.ArrayList;
import java.util.BitSet;
import java.util.LinkedHashMap;
import java.util.List;
import java.util.Map;
import java.util.regex.Matcher;
import java.util.regex.Pattern;

/**
 * The document's sentences that name a boundary case, each with a test of its own: a sentence is quoted as it stands
 * there, so that it can be looked up whether one was left out.
 */
final class Edges {
    private static final Path DOC = Path.of("../shared/DOC.md");

    /** What a sentence says that names a boundary case. */
    private static final Pattern BOUNDARY = Pattern.compile(String.join("|",
        "\\bNONE\\b", "-2\\b", "-9\\b", "-1\\b", "\\bfalse\\b", "\\bat (most|least|first)\\b", "\\b[Nn]o(ne|body|thing)\\b",
        "\\d+ (\\.\\.|to) \\d+", "\\bup to\\b", "\\b(above|below|beyond|behind|beside|besides)\\b", "\\bor (less|more|not)\\b",
        "\\bof several\\b", "\\bof one place\\b", "\\bempty\\b", "\\b[Nn]o (such|text|other|images|VOTE|token|more)\\b",
        "\\bnot (so many|two|as said|one)\\b", "\\b[Ww]ithout\\b", "\\bof 32 bits\\b", "\\balone\\b", "can't",
        "\\b\\d+(st|th)\\b", "\\bif as many\\b", "\\bleast terms\\b", "\\b6: ", "\\b0: ", "\\banother (what|n|one|k)\\b",
        "\\bthere is no\\b", "\\bunlike\\b", "\\btoo\\b", "\\bthe (same|first one|last)\\b"));

    private static final Map<String, String> TEXTS = new LinkedHashMap<>();
    private static final Map<String, BitSet> QUOTED = new LinkedHashMap<>();
    private static final List<String> FAILED = new ArrayList<>();
    private static String section = "";
    private static int told = 0;

    private Edges() {
    }

    /** Takes the document's sections: what it is, each term, each promise. */
    static void open() throws IOException {
        String name = "";
        for (String line : Files.readString(DOC).split("\n")) {
            Matcher heading = Pattern.compile("## (What it is|Promise \\d+|.*).*").matcher(line);
            Matcher term = Pattern.compile("(\\d+)\\. .*").matcher(line);
            if (heading.matches()) {
                name = heading.group(1).matches("What it is|Promise \\d+|Terms") ? heading.group(1) : "";
            } else if (name.startsWith("Term") && term.matches()) {
                name = "Term " + term.group(1);
            }
            if (!name.isEmpty() && !heading.matches()) {
                // What the document says of a call stands behind its signature.
                TEXTS.merge(name, line.replaceFirst("^`[^`]*\\(.*?\\)`: ", "") + "\n", String::concat);
            }
        }
        for (String each : TEXTS.keySet()) {
            QUOTED.put(each, new BitSet());
        }
    }

    /** The edges told from here on are of this section. */
    static void of(String newSection) {
        section = newSection;
    }

    static void ofPromise(int number) {
        of("Promise " + number);
    }

    static void ofTerm(int number) {
        of("Term " + number);
    }

    /** Words that look like it, but name no boundary case. */
    static void plain(String words) {
        int at = TEXTS.getOrDefault(section, "").indexOf(words);
        Calls.due("the document says in " + section + ": " + words, at >= 0, true);
        if (at >= 0) {
            QUOTED.get(section).set(at, at + words.length());
        }
    }

    /** A sentence, or the part of one, that names a boundary case, and its test. */
    static void edge(String sentence, Runnable test) {
        String name = section + ": " + sentence;
        int at = TEXTS.getOrDefault(section, "").indexOf(sentence);
        Calls.due("the document says in " + name, at >= 0, true);
        if (at >= 0) {
            QUOTED.get(section).set(at, at + sentence.length());
        }
        int wrong = Calls.wrong();
        int asked = Calls.asked();
        try {
            test.run();
        } catch (RuntimeException | StackOverflowError thrown) {
            Calls.due(thrown + " in " + name, false, true);
        }
        Calls.due("asks something: " + name, Calls.asked() > asked, true);
        told++;
        if (Calls.wrong() > wrong) {
            FAILED.add(name);
            System.out.println("does not hold: " + name);
        }
    }

    static List<String> failed() {
        return FAILED;
    }

    /** Each boundary case that the document names stands in a sentence that was told. */
    static void close() {
        for (String each : TEXTS.keySet()) {
            Matcher m = BOUNDARY.matcher(TEXTS.get(each));
            while (m.find()) {
                int from = Math.max(0, m.start() - 60);
                int to = Math.min(TEXTS.get(each).length(), m.end() + 40);
                String around = TEXTS.get(each).substring(from, to).replace('\n', ' ');
                Calls.due(each + ", a sentence without a test: .. " + around + " ..", QUOTED.get(each).get(m.start()), true);
            }
        }
        System.out.println("sentences with a test of their own: " + told);
    }
}
