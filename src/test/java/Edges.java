import java.io.IOException;
import java.io.UncheckedIOException;
import java.nio.file.Files;
import java.nio.file.Path;
import java.util.ArrayList;
import java.util.LinkedHashMap;
import java.util.List;
import java.util.Map;
import java.util.regex.Matcher;
import java.util.regex.Pattern;

/**
 * Sentence by sentence: each test stands behind the words of the document that it holds to. The words must stand in the
 * document, and all words of a section must have a test, so that no sentence is passed over.
 */
class Edges {
    /** A test of its own. */
    interface Trial {
        void go(Check check);
    }

    static final int NONE = UnderTheSofa.NONE;
    static final String GREATEST = "....../....../....../....../....../......";
    private static final Path DOC = Path.of("../shared/DOC.md");

    private final Map<String, String> sections = sectionsOf();
    private final Map<String, boolean[]> quoted = new LinkedHashMap<>();
    private int edges = 0;
    private int asked = 0;
    private int wrong = 0;

    /** Headings with their texts; a promise's heading is "Promise n" alone, its call is left out. */
    private static Map<String, String> sectionsOf() {
        String doc;
        try {
            doc = Files.readString(DOC);
        } catch (IOException e) {
            throw new UncheckedIOException(e);
        }
        Map<String, String> sections = new LinkedHashMap<>();
        for (String part : doc.split("(?m)^## ")) {
            int end = part.indexOf('\n');
            String heading = part.substring(0, end).replaceAll("(Promise \\d+):.*", "$1");
            String text = part.substring(end)
                .replaceAll("(?m)^```.*$", "")
                .replaceAll("(?m)^Ahead of the calls .* the interface says: ---- [^(\\n]*", "")
                .replaceAll("(?m)^`[^`]*`: |^\\d+\\. ", "");
            sections.put(heading, plain(text));
        }
        return sections;
    }

    private static String plain(String text) {
        return text.replaceAll("\\s+", " ").trim();
    }

    void edge(String section, String words, Trial trial) {
        edges++;
        Check check = new Check();
        if (!quote(section, plain(words))) {
            check.due("these words stand in the document", false, true);
        }
        try {
            trial.go(check);
        } catch (RuntimeException e) {
            check.due("the test ends without " + e, false, true);
        }
        if (check.asked() == 0) {
            check.due("the test asks something", false, true);
        }
        asked += check.asked();
        wrong += check.wrong();
        if (check.wrong() > 0) {
            System.out.println("  .. but " + section + " says: " + words);
        }
    }

    void edge(int promise, String words, Trial trial) {
        edge("Promise " + promise, words, trial);
    }

    private boolean quote(String section, String words) {
        String text = sections.getOrDefault(section, "");
        boolean[] marks = quoted.computeIfAbsent(section, s -> new boolean[text.length()]);
        int at = text.indexOf(words);
        boolean stands = at >= 0;
        while (at >= 0) {
            for (int i = 0; i < words.length(); i++) {
                marks[at + i] = true;
            }
            at = text.indexOf(words, at + 1);
        }
        return stands;
    }

    /** Every word of the section must have been quoted by some test. */
    private void covered(String section) {
        String text = sections.getOrDefault(section, "");
        boolean[] marks = quoted.getOrDefault(section, new boolean[text.length()]);
        Matcher word = Pattern.compile("\\w+").matcher(text);
        StringBuilder left = new StringBuilder();
        while (word.find()) {
            if (!marks[word.start()]) {
                left.append(' ').append(word.group());
            }
        }
        if (text.isEmpty() || left.length() > 0) {
            wrong++;
            System.out.println(section + " has words without a test:" + left);
        }
    }

    void close(String... whole) {
        for (String section : whole) {
            covered(section);
        }
        System.out.println(getClass().getName() + ": " + edges + " sentences, " + asked + " answers, " + wrong + " wrong");
        if (wrong != 0) {
            System.exit(1);
        }
    }

    void close(int from, int to) {
        List<String> whole = new ArrayList<>();
        for (int promise = from; promise <= to; promise++) {
            whole.add("Promise " + promise);
        }
        close(whole.toArray(new String[0]));
    }

    // ---- what the tests share

    static UnderTheSofa in(String flat) {
        return Check.in(flat);
    }

    static UnderTheSofa in(String flat, int spot, int heading) {
        UnderTheSofa x = Check.in(flat);
        x.carry(spot, heading);
        return x;
    }

    static void tell(UnderTheSofa x, String text) {
        Check.tell(x, text);
    }

    static int flat(UnderTheSofa x, String text) {
        return Check.flat(x, text);
    }

    static int rule(UnderTheSofa x, String text) {
        return Check.rule(x, text);
    }

    static int run(UnderTheSofa x, String text) {
        return Check.run(x, text);
    }

    /** TURN by a rule, on the spot of a new object. */
    static int turnBy(String rule) {
        UnderTheSofa x = new UnderTheSofa();
        int answer = rule(x, rule);
        return answer == 0 ? x.machine(6) : answer;
    }

    /** A machine that is out of current, where it is put. */
    static UnderTheSofa out(String flat, int spot, int heading) {
        UnderTheSofa x = in(flat);
        for (int i = 0; i < 200 && x.machine(2) > 0 && x.steps(1) == 1; i++) {
            x.steps(100);
        }
        x.carry(spot, heading);
        return x;
    }

    /** All that calls tell of an object without changing it. */
    static List<Long> seen(UnderTheSofa x) {
        List<Long> seen = new ArrayList<>();
        for (int what = 0; what <= 10; what++) {
            seen.add((long) x.count(what));
        }
        for (int what = 0; what <= 7; what++) {
            seen.add((long) x.machine(what));
        }
        for (int spot = 0; spot < x.count(0) * x.count(1); spot++) {
            for (int what = 0; what <= 5; what++) {
                seen.add((long) x.spot(spot, what));
            }
        }
        for (int i = 0; i < x.count(9); i++) {
            seen.add(x.row(i));
        }
        return seen;
    }

    /** All that can be found out of an object, what can be undone, what is kept and what was felt too; nothing of it is left then. */
    static List<Long> emptied(UnderTheSofa x) {
        List<Long> found = seen(x);
        found.add((long) x.held());
        found.addAll(seen(x));
        for (int i = 0; i < 16; i++) {
            found.add((long) x.undo());
            found.addAll(seen(x));
        }
        for (int i = 0; i < 3; i++) {
            found.add(x.again(i) ? 1L : 0L);
            found.addAll(seen(x));
        }
        found.add((long) x.run());
        found.addAll(seen(x));
        return found;
    }
}
