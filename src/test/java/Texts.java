/** Texts for the tests: how one is fed, and made-up ones, whole and broken, from a seed. */
final class Texts {
    private long state;

    Texts(long seed) {
        state = seed * 7919 + 17;
    }

    /** The numbers by which a text is fed: five a row, filled up with zeros. */
    static int[][] rows(String text) {
        int[][] rows = new int[(text.length() + 19) / 20][5];
        for (int i = 0; i < text.length(); i++) {
            rows[i / 20][i % 20 / 4] |= (text.charAt(i) & 255) << 24 - i % 4 * 8;
        }
        return rows;
    }

    /** Feeds a text behind an empty tape; false if it is too long. */
    static boolean feed(LoudHouse x, String text) {
        for (int[] r : rows(text)) {
            if (x.feed(r[0], r[1], r[2], r[3], r[4]) == LoudHouse.NONE) {
                return false;
            }
        }
        return x.end(text.length()) == text.length();
    }

    static int house(LoudHouse x, String text) {
        return feed(x, text) ? x.house() : -9999;
    }

    static int rule(LoudHouse x, String text) {
        return feed(x, text) ? x.rule() : -9999;
    }

    int below(int n) {
        state = state * 6364136223846793005L + 1442695040888963407L;
        return (int) ((state >>> 33) % n);
    }

    boolean once(int n) {
        return below(n) == 0;
    }

    String oneOf(String... all) {
        return all[below(all.length)];
    }

    private String gap() {
        return once(12) ? oneOf(" ", "  ", "   ") : "";
    }

    private String number(int most) {
        String digits = Integer.toString(below(most + 1));
        if (once(60)) {
            digits = "00" + digits;
        }
        return digits;
    }

    String house() {
        int rooms = 1 + below(4);
        int hours = once(3) ? 1 : 1 + below(6);
        StringBuilder text = new StringBuilder("house " + rooms + " " + hours);
        int spans = below(8);
        int widest = 1 + below(once(3) ? 40 : 12);
        for (int k = 0; k < spans; k++) {
            text.append(gap()).append(";").append(gap()).append("span ").append(1 + below(widest));
        }
        int people = once(8) ? 0 : 1 + below(once(2) ? 7 : 4);
        int loudest = once(2) ? 30 : 1 + below(30);
        for (int p = 0; p < people; p++) {
            text.append(gap()).append(";person ").append(below(rooms));
            for (int h = 0; h < hours; h++) {
                text.append(" ").append(gap()).append(number(loudest));
            }
            if (once(4)) {
                text.append(gap()).append(";deaf ").append(below(p + 1));
            }
            if (once(2)) {
                text.append(";asks ").append(below(p + 1)).append(gap()).append(" ").append(below(once(2) ? 3 : 100));
            }
        }
        int things = below(4);
        for (int t = 0; t < things; t++) {
            text.append(gap()).append(";thing ").append(below(rooms)).append(" ").append(below(once(2) ? 61 : 10));
        }
        return text.toString();
    }

    private String value() {
        if (once(3)) {
            return number(once(4) ? 99999 : 12);
        }
        return oneOf("person", "room", "storey", "voice", "heard", "hour", "beat", "crowd", "near", "things", "top");
    }

    private String sum() {
        StringBuilder text = new StringBuilder(value());
        while (once(2)) {
            text.append(gap()).append(oneOf("+", "-", "*", "/", "%")).append(gap()).append(value());
        }
        return text.toString();
    }

    private String fact(int deep) {
        if (once(5)) {
            return "not " + gap() + fact(deep + 1);
        }
        if (deep < 12 && once(4)) {
            return "[" + gap() + test(deep + 1) + gap() + "]";
        }
        return sum() + gap() + oneOf("<", "<=", "=", ">=", ">") + gap() + sum();
    }

    private String test(int deep) {
        StringBuilder text = new StringBuilder(fact(deep));
        while (once(3)) {
            text.append(" ").append(oneOf("and", "or")).append(" ").append(fact(deep));
        }
        return text.toString();
    }

    private String walkSum() {
        return oneOf("1", "0-1", "beat%3-1", "hour-room", "person%2*2-1", sum());
    }

    String rule() {
        StringBuilder text = new StringBuilder();
        int clauses = 1 + below(once(8) ? 14 : 4);
        for (int k = 0; k < clauses; k++) {
            text.append(k == 0 ? "" : ";").append(gap());
            text.append(once(2) ? "sing " + sum() : "walk " + walkSum());
            if (!once(4)) {
                text.append(" if ").append(once(30) ? deepFact() : test(0));
            }
        }
        return text.toString();
    }

    private String deepFact() {
        int deep = 8 + below(5);
        StringBuilder text = new StringBuilder();
        StringBuilder behind = new StringBuilder();
        for (int k = 0; k < deep; k++) {
            boolean bracket = once(2);
            text.append(bracket ? "[" : "not ");
            behind.append(bracket ? "]" : "");
        }
        return text + "room<2" + behind;
    }

    /** A text with a byte or more amiss. */
    String broken(String text) {
        StringBuilder t = new StringBuilder(text);
        int faults = 1 + below(2);
        for (int k = 0; k < faults; k++) {
            int at = below(t.length() + 1);
            if (once(3) && at < t.length()) {
                t.deleteCharAt(at);
            } else if (once(2)) {
                t.insert(at, oneOf(";", " ", "[", "]", "<", "=", "9", "0", "a", "not ", "house 1 1;", "span 1;", "sing 1;",
                    "person 0 1;", "thing 0 0;", "1234567", ",", "+", "if ", "and ", "or ", "\0", "\u00ff", "~", "Z", "\t"));
            } else if (at < t.length()) {
                t.setCharAt(at, (char) below(256));
            } else {
                t.append(oneOf(";", " ", " ;", "1", "x"));
            }
        }
        return t.toString();
    }

    /** Words and signs of both languages, in any order. */
    String jumble(boolean house) {
        StringBuilder t = new StringBuilder(house ? "house 2 1" : "sing 1");
        int pieces = below(90);
        for (int k = 0; k < pieces; k++) {
            if (house) {
                t.append(oneOf(";span 1", ";span 2", ";person 0 1", ";person 1 2", ";deaf 0", ";thing 0 1", ";asks 0 1", " "));
            } else {
                t.append(oneOf("+1", "*room", "-2", " ", once(12) ? ";walk 1" : "/3", once(9) ? " if 1=1" : "+beat"));
            }
        }
        return t.toString();
    }
}
