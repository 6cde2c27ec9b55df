/** Long runs of calls, each answered by LoudHouse and by PlainHouse, which must agree. */
public final class CompareTest {
    private static final int RUNS = 250;
    private static final int CALLS = 440;

    private final Texts made;
    private final LoudHouse x = new LoudHouse();
    private final PlainHouse plain = new PlainHouse();
    private final StringBuilder story = new StringBuilder();
    private int calls;

    private CompareTest(long seed) {
        made = new Texts(seed);
    }

    public static void main(String[] args) {
        int from = args.length > 0 ? Integer.parseInt(args[0]) : 1;
        int runs = args.length > 1 ? Integer.parseInt(args[1]) : RUNS;
        int passed = 0;
        int failed = 0;
        for (int seed = from; seed < from + runs; seed++) {
            CompareTest test = new CompareTest(seed);
            if (test.goesWell()) {
                passed++;
            } else {
                failed++;
                System.out.println("run " + seed + " goes apart:" + test.story);
            }
        }
        System.out.println(passed + " passed, " + failed + " failed");
        if (failed > 0) {
            System.exit(1);
        }
    }

    private boolean goesWell() {
        if (made.once(5) && !texts()) {
            return false;
        }
        if (!tell(true, made.house())) {
            return false;
        }
        while (calls < CALLS) {
            if (!step()) {
                return false;
            }
        }
        return true;
    }

    private boolean same(String call, int answer, int due) {
        calls++;
        story.append("\n  ").append(call).append(" = ").append(answer);
        if (answer != due) {
            story.append(", due is ").append(due);
        }
        return answer == due;
    }

    private boolean tell(boolean house, String text) {
        if (!same("end(0)", x.end(0), plain.end(0))) {
            return false;
        }
        for (int[] r : Texts.rows(text)) {
            if (!same("feed(..)", x.feed(r[0], r[1], r[2], r[3], r[4]), plain.feed(r))) {
                return false;
            }
        }
        story.append("\n  \"").append(text).append('"');
        if (!same("end(" + text.length() + ")", x.end(text.length()), plain.end(text.length()))) {
            return false;
        }
        return house ? same("house()", x.house(), plain.house()) : same("rule()", x.rule(), plain.rule());
    }

    /** Faults alone. */
    private boolean texts() {
        for (int k = 0; k < 12; k++) {
            boolean house = made.once(2);
            String text = made.once(4) ? made.jumble(house) : made.broken(house ? made.house() : made.rule());
            if (!tell(house, text)) {
                return false;
            }
        }
        return true;
    }

    /** A number as it should be, mostly; seldom a little beside, or far off. */
    private int number(int least, int most) {
        if (made.once(25)) {
            return least - 1 - made.below(3);
        }
        if (made.once(25)) {
            return most + 1 + made.below(3);
        }
        if (made.once(200)) {
            return made.once(2) ? Integer.MIN_VALUE + made.below(3) : Integer.MAX_VALUE - made.below(3);
        }
        return most < least ? least : least + made.below(most - least + 1);
    }

    private int who() {
        return number(0, plain.count(3) - 1);
    }

    private int thing() {
        return number(0, plain.count(4) - 1);
    }

    private int storey() {
        return number(0, plain.count(2) - 1);
    }

    private int room() {
        return number(0, plain.count(0) - 1);
    }

    private int hour() {
        return number(0, plain.count(1) - 1);
    }

    private int way() {
        return made.once(15) ? number(-1, 1) : made.once(2) ? 1 : -1;
    }

    private boolean step() {
        int kind = made.below(100);
        if (kind < 3) {
            return tell(true, made.once(4) ? made.broken(made.house()) : made.house());
        }
        if (kind < 7) {
            return tell(false, made.once(6) ? made.broken(made.rule()) : made.rule());
        }
        if (kind < 35) {
            return act();
        }
        return kind < 65 ? look() : kind < 90 ? ask() : other();
    }

    private boolean act() {
        int a = who();
        switch (made.below(9)) {
            case 0:
                return same("beat()", x.beat(), plain.beat());
            case 1: {
                int v = number(0, 30);
                return same("sing(" + a + ", " + v + ")", x.sing(a, v), plain.sing(a, v));
            }
            case 2: {
                int h = hour();
                int v = number(0, 30);
                return same("tune(" + a + ", " + h + ", " + v + ")", x.tune(a, h, v), plain.tune(a, h, v));
            }
            case 3:
            case 4: {
                int w = way();
                return same("walk(" + a + ", " + w + ")", x.walk(a, w), plain.walk(a, w));
            }
            case 5: {
                int t = thing();
                int w = way();
                return same("push(" + t + ", " + w + ")", x.push(t, w), plain.push(t, w));
            }
            case 6:
                return same("undo()", x.undo(), plain.undo());
            default: {
                int r = number(0, plain.count(5) - 1);
                int n = made.once(8) ? number(1, 100) : number(1, 6);
                return same("run(" + r + ", " + n + ")", x.run(r, n), plain.run(r, n));
            }
        }
    }

    private boolean look() {
        switch (made.below(8)) {
            case 0:
            case 1:
            case 2: {
                int a = who();
                int w = made.once(4) ? 100 + hour() : number(0, 5);
                return same("person(" + a + ", " + w + ")", x.person(a, w), plain.person(a, w));
            }
            case 3: {
                int t = thing();
                int w = number(0, 3);
                return same("thing(" + t + ", " + w + ")", x.thing(t, w), plain.thing(t, w));
            }
            case 4: {
                int l = made.once(4) ? number(0, 9999) : number(0, 120);
                return same("storey(" + l + ")", x.storey(l), plain.storey(l));
            }
            case 5:
            case 6: {
                int r = room();
                int s = storey();
                return same("at(" + r + ", " + s + ")", x.at(r, s), plain.at(r, s));
            }
            default: {
                int w = number(0, 10);
                return same("count(" + w + ")", x.count(w), plain.count(w));
            }
        }
    }

    private boolean ask() {
        int a = who();
        int s = storey();
        switch (made.below(14)) {
            case 0: {
                int n = number(0, 200);
                return same("ahead(" + a + ", " + n + ")", x.ahead(a, n), plain.ahead(a, n));
            }
            case 1: {
                int w = number(0, 2);
                return same("loop(" + w + ")", x.loop(w), plain.loop(w));
            }
            case 2:
                return meet(s);
            case 3:
                return made.once(3) ? carry() : true;
            case 4:
                return same("lifted(" + a + ")", x.lifted(a), plain.lifted(a));
            case 5:
            case 6:
                return same("each(" + a + ", " + s + ")", x.each(a, s), plain.each(a, s));
            case 7: {
                int h = hour();
                int w = number(-1, 6);
                return same("beds(" + s + ", " + h + ", " + w + ")", x.beds(s, h, w), plain.beds(s, h, w));
            }
            case 8: {
                int w = number(0, 1);
                return same("quiet(" + a + ", " + w + ")", x.quiet(a, w), plain.quiet(a, w));
            }
            case 9: {
                int w = number(0, 3);
                return same("thief(" + w + ")", x.thief(w), plain.thief(w));
            }
            case 10: {
                int w = number(0, 2);
                return same("nextEar(" + w + ")", x.nextEar(w), plain.nextEar(w));
            }
            case 11: {
                int w = number(0, 7);
                return same("fire(" + w + ")", x.fire(w), plain.fire(w));
            }
            case 12:
                return same("rent(" + s + ")", x.rent(s), plain.rent(s))
                    && same("highest()", x.highest(), plain.highest());
            default: {
                int m = number(1, 20);
                int n = number(1, 60);
                int w = number(0, 1);
                return same("drawn(" + m + ", " + n + ", " + w + ")", x.drawn(m, n, w), plain.drawn(m, n, w));
            }
        }
    }

    private boolean meet(int s) {
        int people = made.once(8) ? number(1, 127) : 0;
        int size = 1 + made.below(3);
        for (int k = 0; k < size && people == 0 | k > 0; k++) {
            people |= 1 << made.below(Math.max(1, plain.count(3)));
        }
        int storey = made.once(2) ? -1 : s;
        int w = number(0, 4);
        return same("meet(" + people + ", " + storey + ", " + w + ")", x.meet(people, storey, w),
            plain.meet(people, storey, w));
    }

    private boolean carry() {
        int t = thing();
        int s = storey();
        int w = number(0, 1);
        return same("carry(" + t + ", " + s + ", " + w + ")", x.carry(t, s, w), plain.carry(t, s, w));
    }

    private boolean other() {
        switch (made.below(5)) {
            case 0: {
                int k = number(0, 3);
                return same("image(" + k + ")", x.image(k), plain.image(k));
            }
            case 1: {
                int k = number(0, 3);
                return same("back(" + k + ")", x.back(k), plain.back(k));
            }
            case 2: {
                int v = made.once(5) ? number(0, Integer.MAX_VALUE - 4) : made.below(2000000000);
                return same("seed(" + v + ")", x.seed(v), plain.seed(v));
            }
            default:
                return ear();
        }
    }

    /** Ears that may have heard one thief, mostly: else there would seldom be any. */
    private boolean ear() {
        int r = made.once(8) ? -1 : room();
        int s = storey();
        int l = made.once(3) ? number(0, 30) : 0;
        return same("ear(" + r + ", " + s + ", " + l + ")", x.ear(r, s, l), plain.ear(r, s, l));
    }
}
