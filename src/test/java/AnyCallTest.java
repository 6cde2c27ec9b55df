import java.lang.reflect.InvocationTargetException;
import java.lang.reflect.Method;
import java.lang.reflect.Modifier;
import java.util.ArrayList;
import java.util.Comparator;
import java.util.List;
import java.util.Set;

/**
 * Any calls with any numbers: none may throw. And whatever is only asked, or is refused, must leave all that is seen as it
 * was. Of an object 512 calls are tried at most, 230 of them to look at it twice.
 */
public final class AnyCallTest {
    private static final int RUNS = 1500;
    private static final int CALLS = 130;
    private static final int ASKED = 50;
    private static final Set<String> ASKING = Set.of("person", "thing", "storey", "at", "ahead", "loop", "meet", "carry",
        "lifted", "each", "beds", "quiet", "thief", "nextEar", "fire", "rent", "highest", "drawn", "count");
    private static final int[] EDGES = {Integer.MIN_VALUE, Integer.MIN_VALUE + 1, -100, -4, -3, -2, -1, 7, 8, 20, 21, 30, 31,
        60, 61, 63, 64, 99, 100, 105, 106, 127, 128, 200, 201, 399, 400, 401, 2000, 9999, 10000, 65536, Integer.MAX_VALUE - 99,
        Integer.MAX_VALUE};

    private final Texts made;
    private final LoudHouse x = new LoudHouse();
    private final StringBuilder story = new StringBuilder();

    private AnyCallTest(long seed) {
        made = new Texts(seed);
    }

    public static void main(String[] args) throws IllegalAccessException {
        List<Method> all = methods();
        int passed = 0;
        int failed = 0;
        for (int seed = 1; seed <= RUNS; seed++) {
            AnyCallTest test = new AnyCallTest(seed);
            String wrong = test.run(all);
            if (wrong.isEmpty()) {
                passed++;
            } else {
                failed++;
                System.out.println("run " + seed + ": " + wrong + test.story);
            }
        }
        System.out.println(passed + " passed, " + failed + " failed");
        if (failed > 0) {
            System.exit(1);
        }
    }

    /** In the order of their names: that of reflection is not told. */
    private static List<Method> methods() {
        List<Method> all = new ArrayList<>();
        for (Method method : LoudHouse.class.getDeclaredMethods()) {
            if (Modifier.isPublic(method.getModifiers())) {
                all.add(method);
            }
        }
        all.sort(Comparator.comparing(Method::getName));
        return all;
    }

    private String run(List<Method> all) throws IllegalAccessException {
        try {
            if (!made.once(10)) {
                tell(made.once(8) ? made.broken(made.house()) : made.house());
                story.append("\n  house() = ").append(x.house());
            }
            if (made.once(2)) {
                x.end(0);
                tell(made.once(8) ? made.broken(made.rule()) : made.rule());
                story.append("\n  rule() = ").append(x.rule());
            }
            for (int k = 0; k < CALLS; k++) {
                call(all.get(made.below(all.size())));
            }
            return asks(all);
        } catch (InvocationTargetException thrown) {
            return thrown.getCause().toString();
        }
    }

    private void tell(String text) {
        story.append("\n  \"").append(text).append('"');
        Texts.feed(x, text);
    }

    private int call(Method method) throws IllegalAccessException, InvocationTargetException {
        Object[] numbers = new Object[method.getParameterCount()];
        for (int k = 0; k < numbers.length; k++) {
            numbers[k] = number();
        }
        story.append("\n  ").append(method.getName()).append(List.of(numbers));
        int answer = (int) method.invoke(x, numbers);
        story.append(" = ").append(answer);
        return answer;
    }

    /** A small one, mostly: with far ones alone nothing would ever happen. */
    private int number() {
        if (made.once(12)) {
            return EDGES[made.below(EDGES.length)];
        }
        return made.once(20) ? made.below(1 << 16) << 16 | made.below(1 << 16) : made.below(made.once(3) ? 32 : 5) - 1;
    }

    private String asks(List<Method> all) throws IllegalAccessException, InvocationTargetException {
        String before = seen();
        for (int k = 0; k < ASKED; k++) {
            Method method = all.get(made.below(all.size()));
            if (ASKING.contains(method.getName())) {
                call(method);
            }
        }
        refused();
        String after = seen();
        return after.equals(before) ? "" : "changed from\n    " + before + "\n  to\n    " + after;
    }

    private String seen() {
        return Edges.look(x) + "; rules " + x.count(5) + "; tape " + x.count(10);
    }

    /** All that changes something, with a number that it can't be called with. */
    private void refused() {
        x.end(made.once(2) ? -1 - made.below(5) : x.count(10) + 1 + made.below(5));
        x.sing(0, 31 + made.below(5));
        x.sing(7 + made.below(5), 3);
        x.tune(0, 6 + made.below(5), 3);
        x.tune(-1 - made.below(5), 0, 3);
        x.tune(0, 0, -1 - made.below(5));
        x.walk(0, made.once(2) ? 0 : 2 + made.below(5));
        x.walk(7, 1);
        x.push(3 + made.below(5), 1);
        x.push(0, made.once(2) ? 0 : -2 - made.below(5));
        x.run(0, made.once(2) ? 0 : 101 + made.below(5));
        x.run(6 + made.below(5), 1);
        x.ear(4 + made.below(5), 0, 3);
        x.ear(0, 8 + made.below(5), 3);
        x.ear(0, 0, 31 + made.below(5));
        x.seed(-1 - made.below(5));
        x.image(4 + made.below(5));
        x.back(-1 - made.below(5));
    }
}
