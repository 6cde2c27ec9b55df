import java.util.ArrayDeque;
import java.util.ArrayList;
import java.util.Arrays;
import java.util.HashMap;
import java.util.HashSet;
import java.util.List;
import java.util.Map;
import java.util.Set;

/**
 * The document once more, written as it reads and without care for cost: whole states are copied, texts are read by
 * recursion, and what is asked is found by trying all. LoudHouse is compared with it.
 */
final class PlainHouse {
    static final class Fault extends RuntimeException {
        private static final long serialVersionUID = 1;

        final int code;

        Fault(int place, int kind) {
            super(null, null, false, false);
            code = 1 + 8 * place + kind;
        }
    }

    interface Sum {
        long of(Map<String, Long> words);
    }

    interface Fact {
        boolean of(Map<String, Long> words);
    }

    record Clause(boolean walks, Sum sum, Fact test) { }

    static final class Person {
        int room;
        int storey;
        int[] voices;
        boolean deaf;
        int coins;

        Person copy() {
            Person p = new Person();
            p.room = room;
            p.storey = storey;
            p.voices = voices.clone();
            p.deaf = deaf;
            p.coins = coins;
            return p;
        }
    }

    static final class Thing {
        int room;
        int storey;
        int weight;

        Thing copy() {
            Thing t = new Thing();
            t.room = room;
            t.storey = storey;
            t.weight = weight;
            return t;
        }
    }

    /** A house with all in it. */
    static final class State {
        int rooms;
        int hours;
        List<Integer> spans = new ArrayList<>();
        List<Person> people = new ArrayList<>();
        List<Thing> things = new ArrayList<>();
        int beat;

        State copy() {
            State s = new State();
            s.rooms = rooms;
            s.hours = hours;
            s.spans = new ArrayList<>(spans);
            for (Person p : people) s.people.add(p.copy());
            for (Thing t : things) s.things.add(t.copy());
            s.beat = beat;
            return s;
        }

        int storeys() {
            return spans.size() + 1;
        }

        int storeyOf(int loudness) {
            int storey = 0;
            int left = loudness;
            for (int width : spans) {
                if (left < width) return storey;
                left -= width;
                storey++;
            }
            return storey;
        }

        int[] told() {
            int[] voices = new int[people.size()];
            for (int i = 0; i < voices.length; i++) voices[i] = people.get(i).voices[beat % hours];
            return voices;
        }

        int heard(int who, int[] voices) {
            Person me = people.get(who);
            int heard = voices[who];
            if (me.deaf) return heard;
            for (int i = 0; i < voices.length; i++) {
                Person other = people.get(i);
                if (i == who || other.storey != me.storey) continue;
                if (other.room == me.room) heard += voices[i] / 2;
                if (other.room == me.room + 1 || other.room == me.room - 1) heard += voices[i] / 4;
            }
            return heard;
        }

        int heardByThing(int which, int[] voices) {
            Thing t = things.get(which);
            int sum = 0;
            for (int i = 0; i < voices.length; i++) {
                if (people.get(i).room == t.room && people.get(i).storey == t.storey) sum += voices[i];
            }
            return sum > t.weight ? sum - t.weight : 0;
        }

        void beat(int[] voices) {
            int[] then = new int[people.size()];
            int[] thenThings = new int[things.size()];
            for (int i = 0; i < then.length; i++) then[i] = storeyOf(heard(i, voices));
            for (int i = 0; i < thenThings.length; i++) thenThings[i] = storeyOf(heardByThing(i, voices));
            for (int i = 0; i < then.length; i++) people.get(i).storey = then[i];
            for (int i = 0; i < thenThings.length; i++) things.get(i).storey = thenThings[i];
            beat++;
        }

        List<Integer> storeysOfAll() {
            List<Integer> all = new ArrayList<>();
            for (Person p : people) all.add(p.storey);
            for (Thing t : things) all.add(t.storey);
            return all;
        }

        boolean allDown() {
            for (Person p : people) if (p.storey != 0) return false;
            return true;
        }
    }

    record Ear(int room, int storey, int loudness) { }

    record Thief(int room, int storey, int hum) { }

    record Image(State state, List<State> past, List<Ear> ears, long x) { }

    private final List<Byte> tape = new ArrayList<>();
    private final List<List<Clause>> rules = new ArrayList<>();
    private final Image[] images = new Image[4];
    private State state;
    private List<State> past = new ArrayList<>();
    private List<Ear> ears = new ArrayList<>();
    private long x;

    // ---- texts

    private final class Text {
        final byte[] bytes = new byte[tape.size()];
        int place;

        Text() {
            for (int i = 0; i < bytes.length; i++) bytes[i] = tape.get(i);
        }

        char next() {
            while (place < bytes.length && bytes[place] == 32) place++;
            return place < bytes.length ? (char) (bytes[place] & 255) : (char) 999;
        }

        boolean atEnd() {
            return next() == 999;
        }

        boolean sign(char c) {
            if (next() != c) return false;
            place++;
            return true;
        }

        String lookWord() {
            next();
            int to = place;
            while (to < bytes.length && bytes[to] >= 'a' && bytes[to] <= 'z') to++;
            StringBuilder word = new StringBuilder();
            for (int i = place; i < to; i++) word.append((char) bytes[i]);
            return word.toString();
        }

        String word(String... allowed) {
            String word = lookWord();
            if (!Arrays.asList(allowed).contains(word)) throw new Fault(place, 0);
            place += word.length();
            return word;
        }

        int number(int least, int most) {
            next();
            int from = place;
            String digits = "";
            while (place < bytes.length && bytes[place] >= '0' && bytes[place] <= '9') digits += (char) bytes[place++];
            if (digits.isEmpty()) throw new Fault(from, 0);
            if (digits.length() > 5) throw new Fault(from, 1);
            int value = Integer.parseInt(digits);
            if (value < least || value > most) throw new Fault(from, 1);
            return value;
        }

        boolean goesOn() {
            if (atEnd()) return false;
            if (!sign(';')) throw new Fault(place, 0);
            return true;
        }
    }

    private State readHouse() {
        Text t = new Text();
        State s = new State();
        int clauses = 0;
        do {
            t.next();
            int first = t.place;
            String word = t.word("house", "span", "person", "deaf", "thing", "asks");
            clauses++;
            if (clauses == 41) throw new Fault(first, 4);
            if (clauses == 1 && !word.equals("house")) throw new Fault(first, 4);
            switch (word) {
                case "house" -> {
                    if (clauses > 1) throw new Fault(first, 4);
                    s.rooms = t.number(1, 4);
                    s.hours = t.number(1, 6);
                }
                case "span" -> {
                    if (s.spans.size() == 7) throw new Fault(first, 4);
                    s.spans.add(t.number(1, 40));
                }
                case "person" -> {
                    if (s.people.size() == 7) throw new Fault(first, 4);
                    Person p = new Person();
                    p.room = t.number(0, s.rooms - 1);
                    p.voices = new int[s.hours];
                    for (int h = 0; h < s.hours; h++) p.voices[h] = t.number(0, 30);
                    s.people.add(p);
                }
                case "deaf" -> s.people.get(t.number(0, s.people.size() - 1)).deaf = true;
                case "thing" -> {
                    if (s.things.size() == 3) throw new Fault(first, 4);
                    Thing g = new Thing();
                    g.room = t.number(0, s.rooms - 1);
                    g.weight = t.number(0, 60);
                    s.things.add(g);
                }
                default -> s.people.get(t.number(0, s.people.size() - 1)).coins = t.number(0, 99);
            }
        } while (t.goesOn());
        return s;
    }

    private final class RuleText {
        final Text t = new Text();
        int parts;

        List<Clause> read() {
            List<Clause> clauses = new ArrayList<>();
            do {
                t.next();
                int first = t.place;
                boolean walks = t.word("sing", "walk").equals("walk");
                if (clauses.size() == 12) throw new Fault(first, 4);
                Sum sum = sum();
                Fact test = null;
                if (t.lookWord().equals("if")) {
                    t.word("if");
                    test = test(0);
                }
                clauses.add(new Clause(walks, sum, test));
            } while (t.goesOn());
            return clauses;
        }

        Fact test(int deep) {
            Fact left = part(deep);
            while (t.lookWord().equals("or")) {
                t.word("or");
                Fact a = left;
                Fact b = part(deep);
                left = w -> a.of(w) || b.of(w);
            }
            return left;
        }

        Fact part(int deep) {
            Fact left = fact(deep);
            while (t.lookWord().equals("and")) {
                t.word("and");
                Fact a = left;
                Fact b = fact(deep);
                left = w -> a.of(w) && b.of(w);
            }
            return left;
        }

        Fact fact(int deep) {
            boolean not = t.lookWord().equals("not");
            if (not || t.next() == '[') {
                if (deep == 10) throw new Fault(t.place, 2);
                if (not) {
                    t.word("not");
                    Fact inner = fact(deep + 1);
                    return w -> !inner.of(w);
                }
                t.sign('[');
                Fact inner = test(deep + 1);
                if (!t.sign(']')) throw new Fault(t.place, 0);
                return inner;
            }
            Sum a = sum();
            char c = t.next();
            if ("<=>".indexOf(c) < 0) throw new Fault(t.place, 0);
            count();
            t.place++;
            boolean equal = c != '=' && t.place < t.bytes.length && t.bytes[t.place] == '=';
            if (equal) t.place++;
            Sum b = sum();
            return switch (c) {
                case '<' -> equal ? w -> a.of(w) <= b.of(w) : w -> a.of(w) < b.of(w);
                case '>' -> equal ? w -> a.of(w) >= b.of(w) : w -> a.of(w) > b.of(w);
                default -> w -> a.of(w) == b.of(w);
            };
        }

        void count() {
            parts++;
            if (parts > 60) throw new Fault(t.place, 3);
        }

        Sum sum() {
            Sum left = term();
            while (t.next() == '+' || t.next() == '-') {
                char c = t.next();
                t.place++;
                Sum a = left;
                Sum b = term();
                left = c == '+' ? w -> a.of(w) + b.of(w) : w -> a.of(w) - b.of(w);
            }
            return left;
        }

        Sum term() {
            Sum left = value();
            while (t.next() == '*' || t.next() == '/' || t.next() == '%') {
                char c = t.next();
                t.place++;
                Sum a = left;
                Sum b = value();
                if (c == '*') left = w -> a.of(w) * b.of(w);
                if (c == '/') left = w -> b.of(w) == 0 ? 0 : a.of(w) / b.of(w);
                if (c == '%') left = w -> b.of(w) == 0 ? 0 : a.of(w) % b.of(w);
            }
            return left;
        }

        Sum value() {
            char c = t.next();
            int from = t.place;
            Sum made;
            if (c >= '0' && c <= '9') {
                long n = t.number(0, 99999);
                made = w -> n;
            } else {
                String word = t.word("person", "room", "storey", "voice", "heard", "hour", "beat", "crowd", "near",
                    "things", "top");
                made = w -> w.get(word);
            }
            int behind = t.place;
            t.place = from;
            count();
            t.place = behind;
            return made;
        }
    }

    // ---- the face

    int feed(int... numbers) {
        if (tape.size() + 20 > 400) return -1;
        for (int n : numbers) for (int k = 3; k >= 0; k--) tape.add((byte) (n >> 8 * k));
        return tape.size();
    }

    int end(int n) {
        if (n < 0 || n > tape.size()) return -1;
        while (tape.size() > n) tape.remove(tape.size() - 1);
        return n;
    }

    int house() {
        try {
            State read = readHouse();
            state = read;
            past = new ArrayList<>();
            ears = new ArrayList<>();
            return state.people.size();
        } catch (Fault f) {
            return -2 - f.code;
        } finally {
            tape.clear();
        }
    }

    int rule() {
        if (rules.size() == 6) return -1;
        try {
            rules.add(new RuleText().read());
            return rules.size() - 1;
        } catch (Fault f) {
            return -2 - f.code;
        } finally {
            tape.clear();
        }
    }

    private boolean isPerson(int p) {
        return state != null && p >= 0 && p < state.people.size();
    }

    private boolean isThing(int t) {
        return state != null && t >= 0 && t < state.things.size();
    }

    private boolean isStorey(int s) {
        return state != null && s >= 0 && s < state.storeys();
    }

    private boolean isRoom(int r) {
        return state != null && r >= 0 && r < state.rooms;
    }

    private boolean isHour(int h) {
        return state != null && h >= 0 && h < state.hours;
    }

    int person(int p, int what) {
        if (!isPerson(p)) return -1;
        Person me = state.people.get(p);
        if (what == 0) return me.room;
        if (what == 1) return me.storey;
        if (what == 2) return state.told()[p];
        if (what == 3) return state.heard(p, state.told());
        if (what == 4) return me.deaf ? 1 : 0;
        if (what == 5) return me.coins;
        if (what >= 100 && what < 100 + state.hours) return me.voices[what - 100];
        return -1;
    }

    int thing(int t, int what) {
        if (!isThing(t)) return -1;
        Thing it = state.things.get(t);
        if (what == 0) return it.room;
        if (what == 1) return it.storey;
        if (what == 2) return it.weight;
        if (what == 3) return state.heardByThing(t, state.told());
        return -1;
    }

    int storey(int loudness) {
        return state == null || loudness < 0 || loudness > 9999 ? -1 : state.storeyOf(loudness);
    }

    int at(int room, int storey) {
        if (!isRoom(room) || !isStorey(storey)) return -1;
        int bits = 0;
        for (int p = 0; p < state.people.size(); p++) {
            Person me = state.people.get(p);
            if (me.room == room && me.storey == storey) bits += 1 << p;
        }
        return bits;
    }

    private void act() {
        past.add(state.copy());
        if (past.size() > 20) past.remove(0);
    }

    int beat() {
        if (state == null || state.beat == 9999) return -1;
        act();
        state.beat(state.told());
        return state.beat;
    }

    int sing(int p, int voice) {
        if (!isPerson(p) || voice < 0 || voice > 30 || state.beat == 9999) return -1;
        act();
        int[] voices = state.told();
        voices[p] = voice;
        state.beat(voices);
        return state.people.get(p).storey;
    }

    int tune(int p, int hour, int voice) {
        if (!isPerson(p) || !isHour(hour) || voice < 0 || voice > 30) return -1;
        act();
        int was = state.people.get(p).voices[hour];
        state.people.get(p).voices[hour] = voice;
        return was;
    }

    int walk(int p, int way) {
        if (!isPerson(p) || way != 1 && way != -1 || !isRoom(state.people.get(p).room + way)) return -1;
        act();
        return state.people.get(p).room += way;
    }

    int push(int t, int way) {
        if (!isThing(t) || way != 1 && way != -1 || !isRoom(state.things.get(t).room + way)) return -1;
        Thing it = state.things.get(t);
        boolean with = false;
        for (Person p : state.people) with |= p.room == it.room && p.storey == it.storey;
        if (!with) return -1;
        act();
        return state.things.get(t).room += way;
    }

    int undo() {
        if (past.isEmpty()) return -2;
        state = past.remove(past.size() - 1);
        return past.size();
    }

    private Map<String, Long> words(int p) {
        Person me = state.people.get(p);
        Map<String, Long> w = new HashMap<>();
        long crowd = 0;
        long near = 0;
        long things = 0;
        for (int i = 0; i < state.people.size(); i++) {
            Person other = state.people.get(i);
            if (i == p || other.storey != me.storey) continue;
            if (other.room == me.room) crowd++;
            if (Math.abs(other.room - me.room) == 1) near++;
        }
        for (Thing t : state.things) if (t.room == me.room && t.storey == me.storey) things++;
        w.put("person", (long) p);
        w.put("room", (long) me.room);
        w.put("storey", (long) me.storey);
        w.put("voice", (long) state.told()[p]);
        w.put("heard", (long) state.heard(p, state.told()));
        w.put("hour", (long) (state.beat % state.hours));
        w.put("beat", (long) state.beat);
        w.put("crowd", crowd);
        w.put("near", near);
        w.put("things", things);
        w.put("top", (long) state.spans.size());
        return w;
    }

    private Long first(List<Clause> rule, boolean walks, int p) {
        Map<String, Long> w = words(p);
        for (Clause c : rule) {
            if (c.walks() == walks && (c.test() == null || c.test().of(w))) return c.sum().of(w);
        }
        return null;
    }

    int run(int r, int n) {
        if (state == null || r < 0 || r >= rules.size() || n < 1 || n > 100 || state.beat + n > 9999) return -1;
        past.clear();
        List<Clause> rule = rules.get(r);
        for (int k = 0; k < n; k++) {
            for (int p = 0; p < state.people.size(); p++) {
                Long way = first(rule, true, p);
                if (way != null && (way == 1 || way == -1)) {
                    int room = state.people.get(p).room + way.intValue();
                    if (isRoom(room)) state.people.get(p).room = room;
                }
            }
            int[] voices = state.told();
            for (int p = 0; p < voices.length; p++) {
                Long v = first(rule, false, p);
                if (v != null) voices[p] = v < 0 ? 0 : v > 30 ? 30 : v.intValue();
            }
            state.beat(voices);
        }
        return state.beat;
    }

    int ahead(int p, int n) {
        if (!isPerson(p) || n < 0 || n > 200) return -1;
        State s = state.copy();
        for (int k = 0; k < n; k++) s.beat(s.told());
        return s.people.get(p).storey;
    }

    int loop(int what) {
        if (state == null || what < 0 || what > 2) return -1;
        State s = state.copy();
        Map<List<Integer>, Integer> seen = new HashMap<>();
        List<Integer> tops = new ArrayList<>();
        for (int k = 0; k <= 2000; k++) {
            List<Integer> key = s.storeysOfAll();
            key.add(s.beat % s.hours);
            Integer was = seen.get(key);
            if (was != null) {
                if (what == 0) return was;
                if (what == 1) return k - was;
                int top = -2;
                for (int i = was; i < k; i++) top = Math.max(top, tops.get(i));
                return top;
            }
            seen.put(key, k);
            int top = -2;
            for (Person p : s.people) top = Math.max(top, p.storey);
            tops.add(top);
            s.beat(s.told());
        }
        return -3;
    }

    int meet(int people, int storey, int what) {
        if (state == null || people < 1 || people >= 1 << state.people.size() || what < 0 || what > 4) return -3;
        if (storey != -1 && !isStorey(storey)) return -3;
        List<Integer> set = new ArrayList<>();
        for (int p = 0; p < 7; p++) if ((people >> p & 1) == 1) set.add(p);
        if (set.size() > 3) return -3;
        int[] best = null;
        int rows = (int) Math.pow(31, set.size());
        for (int code = 0; code < rows; code++) {
            int[] row = new int[set.size()];
            int rest = code;
            int together = 0;
            for (int k = row.length - 1; k >= 0; k--) {
                row[k] = rest % 31;
                rest /= 31;
                together += row[k];
            }
            if (best != null && together >= best[0]) continue;
            int[] voices = state.told();
            for (int k = 0; k < row.length; k++) voices[set.get(k)] = row[k];
            Set<Integer> places = new HashSet<>();
            for (int p : set) places.add(state.storeyOf(state.heard(p, voices)));
            if (places.size() != 1) continue;
            int place = places.iterator().next();
            if (storey != -1 && storey != place) continue;
            best = new int[] {together, place, -1, -1, -1};
            System.arraycopy(row, 0, best, 2, row.length);
        }
        return best == null ? -2 : best[what];
    }

    private State next(State from, int who) {
        State s = from.copy();
        int[] voices = new int[s.people.size()];
        for (int p = 0; p < voices.length; p++) voices[p] = (who >> p & 1) == 1 ? 30 : 0;
        s.beat(voices);
        return s;
    }

    /** Beats from a state till a thing is there; -3 never, -4 unknown, if there may be so many situations. */
    private int beatsTo(State from, int t, int storey, int limit) {
        if (from.things.get(t).storey == storey) return 0;
        Map<List<Integer>, Integer> seen = new HashMap<>();
        ArrayDeque<State> queue = new ArrayDeque<>();
        seen.put(from.storeysOfAll(), 0);
        queue.add(from);
        while (!queue.isEmpty()) {
            State s = queue.remove();
            int beats = seen.get(s.storeysOfAll());
            for (int who = 0; who < 1 << s.people.size(); who++) {
                State to = next(s, who);
                if (to.things.get(t).storey == storey) return beats + 1;
                if (seen.containsKey(to.storeysOfAll())) continue;
                if (seen.size() == limit) return -4;
                seen.put(to.storeysOfAll(), beats + 1);
                queue.add(to);
            }
        }
        return -3;
    }

    int carry(int t, int storey, int what) {
        if (!isThing(t) || !isStorey(storey) || what < 0 || what > 1) return -1;
        int beats = beatsTo(state, t, storey, 600);
        if (what == 0 || beats < 0) return beats;
        if (beats == 0) return -2;
        for (int who = 0; who < 1 << state.people.size(); who++) {
            if (beatsTo(next(state, who), t, storey, 1 << 30) == beats - 1) return who;
        }
        throw new IllegalStateException("no first beat");
    }

    int lifted(int p) {
        if (!isPerson(p)) return -1;
        int bits = 0;
        int with = state.storeyOf(state.heard(p, state.told()));
        for (int i = 0; i < state.people.size(); i++) {
            int[] voices = state.told();
            voices[i] = 0;
            if (i != p && state.storeyOf(state.heard(p, voices)) < with) bits |= 1 << i;
        }
        return bits;
    }

    int each(int p, int storey) {
        if (!isPerson(p) || !isStorey(storey)) return -1;
        int best = -2;
        for (int v = 30; v >= 0; v--) {
            int[] voices = state.told();
            voices[p] = v;
            if (state.storeyOf(state.heard(p, voices)) == storey) best = v;
        }
        return best;
    }

    int beds(int storey, int hour, int what) {
        if (!isStorey(storey) || !isHour(hour) || what < -1 || what > 6) return -3;
        State s = state.copy();
        s.beat = hour;
        for (Person p : s.people) p.storey = storey;
        List<int[]> ways = new ArrayList<>();
        sleep(s, 0, storey, ways);
        if (what == -1) return ways.size();
        return ways.isEmpty() || what >= s.people.size() ? -2 : ways.get(0)[what];
    }

    private void sleep(State s, int who, int storey, List<int[]> ways) {
        if (who < s.people.size()) {
            for (int room = 0; room < s.rooms; room++) {
                s.people.get(who).room = room;
                sleep(s, who + 1, storey, ways);
            }
            return;
        }
        int[] way = new int[s.people.size()];
        for (int p = 0; p < way.length; p++) {
            if (s.storeyOf(s.heard(p, s.told())) != storey) return;
            way[p] = s.people.get(p).room;
        }
        ways.add(way);
    }

    int quiet(int p, int what) {
        if (!isPerson(p) || what < 0 || what > 1) return -1;
        int alone = state.storeyOf(state.told()[p]);
        int[] best = null;
        for (int set = 0; set < 1 << state.people.size(); set++) {
            if ((set >> p & 1) == 1) continue;
            int[] voices = state.told();
            int coins = 0;
            for (int i = 0; i < voices.length; i++) {
                if ((set >> i & 1) == 0) continue;
                voices[i] = 0;
                coins += state.people.get(i).coins;
            }
            if (state.storeyOf(state.heard(p, voices)) == alone && (best == null || coins < best[0])) {
                best = new int[] {coins, set};
            }
        }
        return best == null ? -2 : best[what];
    }

    int ear(int room, int storey, int loudness) {
        if (room == -1) {
            ears.clear();
            return 0;
        }
        if (!isRoom(room) || !isStorey(storey) || loudness < 0 || loudness > 30 || ears.size() == 8) return -2;
        ears.add(new Ear(room, storey, loudness));
        return ears.size();
    }

    private static int hum(Thief t, int room, int storey) {
        if (t.room() == room && t.storey() == storey) return t.hum();
        if (t.storey() == storey && (t.room() == room - 1 || t.room() == room + 1)) return t.hum() / 2;
        if (t.room() == room && (t.storey() == storey - 1 || t.storey() == storey + 1)) return t.hum() / 4;
        return 0;
    }

    private List<Thief> thieves() {
        List<Thief> all = new ArrayList<>();
        for (int r = 0; r < state.rooms; r++) {
            for (int s = 0; s < state.storeys(); s++) {
                for (int h = 1; h <= 30; h++) {
                    Thief t = new Thief(r, s, h);
                    boolean fits = true;
                    for (Ear e : ears) fits &= hum(t, e.room(), e.storey()) == e.loudness();
                    if (fits) all.add(t);
                }
            }
        }
        return all;
    }

    int thief(int what) {
        if (state == null || what < 0 || what > 3) return -1;
        List<Thief> all = thieves();
        if (what == 0) return all.size();
        if (all.isEmpty()) return -2;
        Thief t = all.get(0);
        return what == 1 ? t.room() : what == 2 ? t.storey() : t.hum();
    }

    int nextEar(int what) {
        if (state == null || what < 0 || what > 2) return -1;
        List<Thief> all = thieves();
        if (all.isEmpty()) return -2;
        int[] best = null;
        for (int s = 0; s < state.storeys(); s++) {
            for (int r = 0; r < state.rooms; r++) {
                int most = 0;
                for (int loud = 0; loud <= 30; loud++) {
                    int stay = 0;
                    for (Thief t : all) if (hum(t, r, s) == loud) stay++;
                    most = Math.max(most, stay);
                }
                if (best == null || most < best[2]) best = new int[] {r, s, most};
            }
        }
        return best[what];
    }

    int fire(int what) {
        if (state == null || what < 0 || what > 7) return -1;
        int[][] best = new int[1][];
        int[] fewest = {99};
        orders(new ArrayList<>(), fewest, best);
        if (what == 0) return fewest[0];
        return what > best[0].length ? -2 : best[0][what - 1];
    }

    private void orders(List<Integer> order, int[] fewest, int[][] best) {
        int size = state.people.size();
        if (order.size() < size) {
            for (int p = 0; p < size; p++) {
                if (order.contains(p)) continue;
                order.add(p);
                orders(order, fewest, best);
                order.remove(order.size() - 1);
            }
            return;
        }
        State s = state.copy();
        int beats = 0;
        while (!s.allDown()) {
            int[] voices = s.told();
            for (int k = 0; k <= beats && k < size; k++) voices[order.get(k)] = 0;
            s.beat(voices);
            beats++;
        }
        if (beats < fewest[0]) {
            fewest[0] = beats;
            best[0] = order.stream().mapToInt(i -> i).toArray();
        }
    }

    int rent(int storey) {
        if (!isStorey(storey)) return -1;
        int begin = 0;
        for (int s = 0; s < storey; s++) begin += state.spans.get(s);
        int coins = 0;
        for (Person p : state.people) if (p.storey == storey) coins += begin;
        for (Thing t : state.things) if (t.storey == storey) coins += 5;
        return coins;
    }

    int highest() {
        if (state == null) return -1;
        for (int s = 7; s >= 0; s--) {
            for (int p = 0; p < state.people.size(); p++) if (state.people.get(p).storey == s) return p;
        }
        return -2;
    }

    int seed(int number) {
        if (number < 0) return -1;
        int was = (int) x;
        x = number;
        return was;
    }

    int drawn(int m, int n, int what) {
        if (state == null || m < 1 || m > 20 || n < 1 || n > 60 || what < 0 || what > 1) return -1;
        long draw = x;
        int higher = 0;
        int top = 0;
        for (int time = 0; time < m; time++) {
            State s = state.copy();
            for (int k = 0; k < n; k++) {
                draw = (draw * 1103515245L + 12345L) % 2147483648L;
                int who = (int) (draw / 65536 % (s.people.size() + 1));
                int[] voices = s.told();
                if (who < voices.length) voices[who] = 30;
                State before = s.copy();
                s.beat(voices);
                for (int p = 0; p < voices.length; p++) {
                    if (s.people.get(p).storey > before.people.get(p).storey) higher++;
                }
            }
            for (Person p : s.people) if (p.storey == s.spans.size()) top++;
        }
        return what == 0 ? higher : top;
    }

    int count(int what) {
        boolean told = state != null;
        return switch (what) {
            case 0 -> told ? state.rooms : 0;
            case 1 -> told ? state.hours : 0;
            case 2 -> told ? state.storeys() : -1;
            case 3 -> told ? state.people.size() : 0;
            case 4 -> told ? state.things.size() : 0;
            case 5 -> rules.size();
            case 6 -> told ? state.beat : 0;
            case 7 -> ears.size();
            case 8 -> past.size();
            case 9 -> (int) x;
            case 10 -> tape.size();
            default -> -1;
        };
    }

    private static Image copy(Image i) {
        List<State> states = new ArrayList<>();
        for (State s : i.past()) states.add(s.copy());
        return new Image(i.state() == null ? null : i.state().copy(), states, new ArrayList<>(i.ears()), i.x());
    }

    int image(int k) {
        if (k < 0 || k > 3) return -1;
        images[k] = copy(new Image(state, past, ears, x));
        return state == null ? 0 : state.beat;
    }

    int back(int k) {
        if (k < 0 || k > 3 || images[k] == null) return -1;
        Image i = copy(images[k]);
        state = i.state();
        past = i.past();
        ears = i.ears();
        x = i.x();
        return state == null ? 0 : state.beat;
    }
}
