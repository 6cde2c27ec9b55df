import java.io.IOException;
import java.nio.file.Files;
import java.nio.file.Path;
import java.util.ArrayList;
import java.util.HashSet;
import java.util.LinkedHashMap;
import java.util.List;
import java.util.Map;
import java.util.Set;

/** Tests by sentence: each bears a heading of the document, words that stand under it, and the edge that is tried. */
final class Edges {
    static final int FAR = Integer.MAX_VALUE;
    static final int LOW = Integer.MIN_VALUE;

    /** What a test does; what it finds wrong it says by due(). */
    interface Test {
        void run();
    }

    private final Map<String, String> document = new LinkedHashMap<>();
    private final Set<String> names = new HashSet<>();
    private final List<String> wrongs = new ArrayList<>();
    private final StringBuilder log = new StringBuilder();
    private int passed;
    private int failed;

    Edges(Path path) throws IOException {
        String heading = "";
        for (String line : Files.readAllLines(path)) {
            if (line.startsWith("#")) {
                heading = line.replaceFirst("#+ *", "");
            } else {
                document.merge(heading, line, (a, b) -> a + " " + b);
            }
        }
        document.replaceAll((name, text) -> oneLine(text));
    }

    private static String oneLine(String text) {
        return text.replaceAll("\\s+", " ").trim();
    }

    /** One test; its words must stand under its heading ("Promise 7" stands for "Promise 7: thing"), so that they are found. */
    void edge(String heading, String words, String which, Test test) {
        String name = heading + " | " + words + " | " + which;
        if (!names.add(name)) {
            wrongs.add("there are two tests of this name");
        }
        if (!isTold(heading, oneLine(words))) {
            wrongs.add("the document has no such words there");
        }
        test.run();
        if (wrongs.isEmpty()) {
            passed++;
            log.append("ok: ").append(name).append('\n');
        } else {
            failed++;
            log.append("FAILED: ").append(name).append('\n');
            for (String wrong : wrongs) {
                log.append("  ").append(wrong).append('\n');
            }
            wrongs.clear();
        }
    }

    private boolean isTold(String heading, String words) {
        for (Map.Entry<String, String> section : document.entrySet()) {
            boolean here = section.getKey().equals(heading) || section.getKey().startsWith(heading + ":");
            if (here && section.getValue().contains(words)) {
                return true;
            }
        }
        return false;
    }

    /** Every heading that promises something has a test. */
    void everyPromiseIsTried() {
        for (String heading : document.keySet()) {
            String promise = heading.startsWith("Promise ") ? heading.substring(0, heading.indexOf(':')) : heading;
            boolean tried = names.stream().anyMatch(name -> name.startsWith(promise + " | "));
            if (heading.startsWith("Promise ") && !tried) {
                failed++;
                log.append("FAILED: no test of ").append(heading).append('\n');
            }
        }
    }

    Set<String> names() {
        return names;
    }

    String log() {
        return log + "" + passed + " passed, " + failed + " failed";
    }

    int failed() {
        return failed;
    }

    // ---- what tests say and need

    void due(String call, int answer, int want) {
        if (answer != want) {
            wrongs.add(call + " answered " + answer + ", due is " + want);
        }
    }

    void same(String what, String now, String before) {
        if (!now.equals(before)) {
            wrongs.add(what + " changed from\n    " + before + "\n  to\n    " + now);
        }
    }

    static int fault(int place, int kind) {
        return -2 - (1 + 8 * place + kind);
    }

    LoudHouse home(String text) {
        LoudHouse x = new LoudHouse();
        int people = Texts.house(x, text);
        if (people < 0) {
            wrongs.add("\"" + text + "\" should be a house, and has fault " + people);
        }
        return x;
    }

    void teach(LoudHouse x, String text) {
        int number = x.count(5);
        due("rule \"" + text + "\"", Texts.rule(x, text), number);
    }

    void goodHouse(String text, int people) {
        due("house \"" + text + "\"", Texts.house(new LoudHouse(), text), people);
    }

    /** A house with a fault of a kind where ^ stands, which is left out. */
    void badHouse(String marked, int kind) {
        int place = marked.indexOf('^');
        LoudHouse x = new LoudHouse();
        due("house \"" + marked + "\"", Texts.house(x, without(marked, place)), fault(place, kind));
        due("then there is no house: count(2)", x.count(2), -1);
    }

    void goodRule(String text) {
        due("rule \"" + text + "\"", Texts.rule(new LoudHouse(), text), 0);
    }

    void badRule(String marked, int kind) {
        int place = marked.indexOf('^');
        LoudHouse x = new LoudHouse();
        due("rule \"" + marked + "\"", Texts.rule(x, without(marked, place)), fault(place, kind));
        due("then there is no rule: count(5)", x.count(5), 0);
    }

    private static String without(String marked, int place) {
        return marked.substring(0, place) + marked.substring(place + 1);
    }

    /** Goes to a beat by a rule that changes nobody's voice and room; what was done cannot be undone then. */
    void goTo(LoudHouse x, int beat) {
        int number = x.count(5);
        teach(x, "walk 0");
        for (int from = x.count(6); from < beat; from += 100) {
            x.run(number, Math.min(100, beat - from));
        }
        due("the beat gone to", x.count(6), beat);
    }

    /** All that can be seen of a house, but for rules and tape; some hundred calls. */
    static String look(LoudHouse x) {
        StringBuilder seen = new StringBuilder("counts");
        for (int what = 0; what <= 9; what++) {
            seen.append(what == 5 ? "" : " " + x.count(what));
        }
        int people = x.count(3);
        int hours = x.count(1);
        int things = x.count(4);
        for (int p = 0; p < people; p++) {
            seen.append("; person");
            for (int what = 0; what <= 5; what++) {
                seen.append(' ').append(x.person(p, what));
            }
            for (int hour = 0; hour < hours; hour++) {
                seen.append(' ').append(x.person(p, 100 + hour));
            }
        }
        for (int k = 0; k < things; k++) {
            seen.append("; thing");
            for (int what = 0; what <= 3; what++) {
                seen.append(' ').append(x.thing(k, what));
            }
        }
        seen.append("; thieves");
        for (int what = 0; what <= 3; what++) {
            seen.append(' ').append(x.thief(what));
        }
        seen.append("; storeys ").append(x.storey(0)).append(' ').append(x.storey(9)).append(' ').append(x.storey(99));
        return seen.append("; loop ").append(x.loop(0)).append(' ').append(x.loop(1)).toString();
    }
}
