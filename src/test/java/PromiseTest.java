import java.util.ArrayList;
import java.util.List;

/** Every promise of the document, by answers worked out by hand. */
public final class PromiseTest {
    /** The house that most promises are tried in: storeys from 0, 5 and 15 on. */
    private static final String HOME = "house 3 2;span 5;span 10;person 0 4 6;person 0 8 1;person 1 20 20;deaf 1;"
        + "thing 0 6;thing 2 0;asks 0 3;asks 1 7;asks 0 5";
    /** Behind a beat, people are on storey 1, and each thing on the storey of its number. */
    private static final String LIFTED_THINGS = "house 2 1;span 5;span 10;person 0 9;person 0 9;thing 0 60;thing 0 10;thing 0 0";
    private static final int FAR = Integer.MAX_VALUE;
    private static final int LOW = Integer.MIN_VALUE;

    private static final List<String> wrongs = new ArrayList<>();
    private static int promise;
    private static int passed;
    private static int failed;

    private static void due(String call, int answer, int want) {
        if (answer != want) {
            wrongs.add(call + " answered " + answer + ", due is " + want);
        }
    }

    private static void close(String name) {
        promise++;
        if (wrongs.isEmpty()) {
            passed++;
        } else {
            failed++;
            System.out.println("promise " + promise + ", " + name + ":");
            for (String wrong : wrongs) {
                System.out.println("  " + wrong);
            }
            wrongs.clear();
        }
    }

    private static LoudHouse home() {
        return home(HOME);
    }

    private static LoudHouse home(String text) {
        LoudHouse x = new LoudHouse();
        int people = Texts.house(x, text);
        if (people < 0) {
            wrongs.add("\"" + text + "\" should be a house, and has fault " + people);
        }
        return x;
    }

    private static void teach(LoudHouse x, String text) {
        int number = x.count(5);
        due("rule \"" + text + "\"", Texts.rule(x, text), number);
    }

    public static void main(String[] args) {
        newObject();
        feed();
        end();
        house();
        rule();
        person();
        thing();
        storey();
        at();
        beat();
        sing();
        tune();
        walk();
        push();
        undo();
        run();
        ahead();
        loop();
        meet();
        carry();
        lifted();
        each();
        beds();
        quiet();
        ear();
        thief();
        nextEar();
        fire();
        rent();
        highest();
        seed();
        drawn();
        count();
        image();
        back();
        System.out.println(passed + " passed, " + failed + " failed");
        if (failed > 0) {
            System.exit(1);
        }
    }

    private static void newObject() {
        LoudHouse x = new LoudHouse();
        for (int what = 0; what <= 10; what++) {
            due("count(" + what + ")", x.count(what), what == 2 ? -1 : 0);
        }
        due("NONE", LoudHouse.NONE, -1);
        due("run(0, 1)", x.run(0, 1), -1);
        due("ahead(0, 0)", x.ahead(0, 0), -1);
        due("highest()", x.highest(), -1);
        due("two objects", home().count(3) + x.count(3), 3);
        close("a new object");
    }

    private static void feed() {
        LoudHouse x = new LoudHouse();
        // "hous", "e 2 ", "3", then what the end cuts off
        due("feed", x.feed(0x686f7573, 0x65203220, 0x33000000, -1, -1), 20);
        due("end(9)", x.end(9), 9);
        due("house()", x.house(), 0);
        due("rooms", x.count(0), 2);
        due("hours", x.count(1), 3);
        for (int k = 1; k <= 20; k++) {
            due("feed " + k, x.feed(1, 2, 3, 4, 5), 20 * k);
        }
        due("feed beyond 400", x.feed(1, 2, 3, 4, 5), -1);
        due("count(10)", x.count(10), 400);
        due("end(381)", x.end(381), 381);
        due("feed to 401", x.feed(1, 2, 3, 4, 5), -1);
        due("count(10)", x.count(10), 381);
        due("end(380)", x.end(380), 380);
        due("feed to 400", x.feed(1, 2, 3, 4, 5), 400);
        due("end(0)", x.end(0), 0);
        due("feed high bytes", x.feed(-1, -1, -1, -1, -1), 20);
        due("house() of high bytes", x.house(), -3);
        due("feed blanks", x.feed(0x20202020, 0x20202020, 0x20202020, 0x20202020, 0x20a06120), 20);
        due("rule() of a byte 160 at 17", x.rule(), -2 - (1 + 8 * 17));
        close("feed");
    }

    private static void end() {
        LoudHouse x = new LoudHouse();
        due("end(1) of none", x.end(1), -1);
        due("end(0) of none", x.end(0), 0);
        x.feed(0, 0, 0, 0, 0);
        due("end(21)", x.end(21), -1);
        due("end(-1)", x.end(-1), -1);
        due("end(least)", x.end(LOW), -1);
        due("end(most)", x.end(FAR), -1);
        due("nothing happened", x.count(10), 20);
        due("end(20)", x.end(20), 20);
        due("end(7)", x.end(7), 7);
        due("count(10)", x.count(10), 7);
        due("end(8)", x.end(8), -1);
        due("feed behind it", x.feed(0, 0, 0, 0, 0), 27);
        x.end(0);
        Texts.feed(x, "house 1 1;span 5");
        due("end keeps the first bytes", x.end(9), 9);
        due("house()", x.house(), 0);
        due("no span", x.count(2), 1);
        close("end");
    }

    /** A text with a fault of a kind where ^ stands, which is left out. */
    private static void badHouse(String marked, int kind) {
        int place = marked.indexOf('^');
        String text = marked.substring(0, place) + marked.substring(place + 1);
        LoudHouse x = home();
        due("house \"" + marked + "\"", Texts.house(x, text), -2 - (1 + 8 * place + kind));
        due("people then", x.count(3), 3);
        due("tape then", x.count(10), 0);
    }

    private static void goodHouse(String text, int people) {
        due("house \"" + text + "\"", Texts.house(new LoudHouse(), text), people);
    }

    private static void house() {
        goodHouse("house 1 1", 0);
        goodHouse("  house4 6 ; span40;span 1  ", 0);
        goodHouse("house 00004 00006", 0);
        goodHouse("house 4 1;person 3 30;thing 3 60;asks 0 99;deaf 0;person 0 0", 2);
        goodHouse("house 1 1" + ";span 1".repeat(7) + ";person 0 1".repeat(7) + ";thing 0 1".repeat(3), 7);
        goodHouse("house 1 1;person 0 1" + ";deaf 0".repeat(38), 1);
        housesThatFail();
        LoudHouse x = home();
        teach(x, "sing 1");
        x.beat();
        x.ear(0, 0, 3);
        x.seed(77);
        x.image(2);
        due("another house", Texts.house(x, "house 2 1;person 1 9"), 1);
        due("rooms", x.count(0), 2);
        due("storeys", x.count(2), 1);
        due("things", x.count(4), 0);
        due("rules stay", x.count(5), 1);
        due("beat", x.count(6), 0);
        due("no ears", x.count(7), 0);
        due("nothing to be undone", x.count(8), 0);
        due("undo()", x.undo(), -2);
        due("x stays", x.count(9), 77);
        due("its room", x.person(0, 0), 1);
        due("its storey", x.person(0, 1), 0);
        due("nobody is deaf", x.person(0, 4), 0);
        due("nobody asks", x.person(0, 5), 0);
        due("images stay", x.back(2), 1);
        due("people of the image", x.count(3), 3);
        close("house");
    }

    private static void housesThatFail() {
        badHouse("^", 0);
        badHouse("   ^", 0);
        badHouse("^House 1 1", 0);
        badHouse("^houses 1 1", 0);
        badHouse(" ^hous 1 1", 0);
        badHouse("^housez 1 1", 0);
        badHouse("house^", 0);
        badHouse("house 1^", 0);
        badHouse("house 1  ^", 0);
        badHouse("house ^x 1", 0);
        badHouse("house ^-1 1", 0);
        badHouse("house ^0 1", 1);
        badHouse("house ^5 1", 1);
        badHouse("house 1 ^0", 1);
        badHouse("house 1 ^7", 1);
        badHouse("house ^123456 1", 1);
        badHouse("house ^000001 1", 1);
        badHouse("house ^11;span 1", 1);
        badHouse("house 1 1;^", 0);
        badHouse("house 1 1 ^1", 0);
        badHouse("house 1 1;^;span 1", 0);
        badHouse("house 1 1;^roof 1", 0);
        badHouse("house 1 1^\t;span 1", 0);
        badHouse("^span 5", 4);
        badHouse(" ^deaf 0", 4);
        badHouse("house 1 1; ^house 1 1", 4);
        badHouse("house 1 1;span ^0", 1);
        badHouse("house 1 1;span ^41", 1);
        badHouse("house 1 1" + ";span 1".repeat(7) + ";^span 1", 4);
        badHouse("house 1 1" + ";person 0 1".repeat(7) + ";^person 0 1", 4);
        badHouse("house 1 1" + ";thing 0 1".repeat(3) + ";^thing 0 1", 4);
        badHouse("house 1 1;person 0 1" + ";deaf 0".repeat(38) + ";^deaf 0", 4);
        badHouse("house 1 1;person 0 1" + ";deaf 0".repeat(38) + ";^dead 0", 0);
        badHouse("house 1 1;person 0 1" + ";deaf 0".repeat(38) + ";^", 0);
        badHouse("house 2 1;person ^2 5", 1);
        badHouse("house 2 1;person 1 ^31", 1);
        badHouse("house 2 2;person 1 3^;person 1 3 3", 0);
        badHouse("house 2 2;person 1 3 4 ^5", 0);
        badHouse("house 2 1;deaf ^0", 1);
        badHouse("house 2 1;deaf ^0;person 0 1", 1);
        badHouse("house 2 1;person 0 1;deaf ^1", 1);
        badHouse("house 2 1;thing ^2 5", 1);
        badHouse("house 2 1;thing 1 ^61", 1);
        badHouse("house 2 1;asks ^0 5", 1);
        badHouse("house 2 1;person 0 1;asks 0 ^100", 1);
        badHouse("house 2 1;person 0 1;asks 0^", 0);
    }

    private static void badRule(String marked, int kind) {
        int place = marked.indexOf('^');
        String text = marked.substring(0, place) + marked.substring(place + 1);
        LoudHouse x = home();
        due("rule \"" + marked + "\"", Texts.rule(x, text), -2 - (1 + 8 * place + kind));
        due("rules then", x.count(5), 0);
        due("tape then", x.count(10), 0);
    }

    private static void goodRule(String text) {
        due("rule \"" + text + "\"", Texts.rule(new LoudHouse(), text), 0);
    }

    private static void rule() {
        goodRule("sing 1");
        goodRule(" walk1-room*2 if[not room<=3or near>things]and top=1 ; sing 00007 ");
        goodRule("sing person+room+storey+voice+heard+hour+beat+crowd+near+things+top+99999");
        goodRule("sing 1 if " + "[".repeat(10) + "1=1" + "]".repeat(10));
        goodRule("sing 1 if " + "not ".repeat(10) + "1=1 and " + "not ".repeat(10) + "1=1");
        goodRule("sing 1" + "+1".repeat(59));
        goodRule("sing 1 if 1=1" + " or 1=1".repeat(18) + ";sing 1;sing 1");
        goodRule("sing 1" + ";walk 1".repeat(11));
        goodRule("sing 1 if 1=1 or 2=2 and 3=3 or not not[1<2]");
        rulesThatFail();
        LoudHouse x = new LoudHouse();
        for (int k = 0; k < 6; k++) {
            due("rule " + k, Texts.rule(x, "walk 1"), k);
        }
        due("a seventh", Texts.rule(x, "sing 1"), -1);
        due("nothing happened", x.count(10), 6);
        due("rules", x.count(5), 6);
        Texts.feed(x, "nonsense");
        due("a seventh, amiss", x.rule(), -1);
        close("rule");
    }

    private static void rulesThatFail() {
        badRule("^", 0);
        badRule("^song 1", 0);
        badRule("^singing 1", 0);
        badRule("^singz 1", 0);
        badRule("^if 1=1", 0);
        badRule("sing^", 0);
        badRule("sing ^;walk 1", 0);
        badRule("sing 1;^", 0);
        badRule("sing 1;^hum 1", 0);
        badRule("sing 1 ^1", 0);
        badRule("sing 1+^", 0);
        badRule("sing ^-1", 0);
        badRule("sing 1+^*2", 0);
        badRule("sing ^rooms", 0);
        badRule("sing ^not", 0);
        badRule("sing ^[1]", 0);
        badRule("sing ^Room", 0);
        badRule("sing ^100000", 1);
        badRule("sing 1 ^iff 1=1", 0);
        badRule("sing 1 if^", 0);
        badRule("sing 1 if 1^", 0);
        badRule("sing 1 if 1 ^and 1=1", 0);
        badRule("sing 1 if 1=^", 0);
        badRule("sing 1 if 1=1 ^=1", 0);
        badRule("sing 1 if 1=^<1", 0);
        badRule("sing 1 if 1< ^=1", 0);
        badRule("sing 1 if 1>^>1", 0);
        badRule("sing 1 if not^", 0);
        badRule("sing 1 if ^nota 1=1", 0);
        badRule("sing 1 if 1=1 and^", 0);
        badRule("sing 1 if 1=1 or ^or 1=1", 0);
        badRule("sing 1 if 1=1^]", 0);
        badRule("sing 1 if [1=1^", 0);
        badRule("sing 1 if [1=1^;sing 1", 0);
        badRule("sing 1 if [1=1]^]", 0);
        badRule("sing 1 if [1+^[1]]=1", 0);
        badRule("sing 1 if [1=1] ^<2", 0);
        badRule("sing 1 if [1=1] ^if 1=1", 0);
        badRule("sing 1 if " + "[".repeat(10) + "^[1=1", 2);
        badRule("sing 1 if " + "not ".repeat(10) + "^not 1=1", 2);
        badRule("sing 1 if " + "not [".repeat(5) + "^not 1=1", 2);
        badRule("sing 1 if " + "not [".repeat(5) + "1=1] and [not 1=1] and [not ^not 1=1]", 2);
        badRule("sing 1 if " + "[".repeat(10) + "^nothing=1", 0);
        badRule("sing 1" + "+1".repeat(59) + "+^1", 3);
        badRule("sing 1" + "+1".repeat(59) + "+^room", 3);
        badRule("sing 1" + "+1".repeat(59) + "+^rooms", 0);
        badRule("sing 1" + "+1".repeat(59) + "+^100000", 1);
        badRule("sing 1" + "+1".repeat(58) + " if 1^<1", 3);
        badRule("sing 1" + "+1".repeat(57) + " if 1<^1", 3);
        badRule("sing 1" + "+1".repeat(40) + ";walk 1" + "+1".repeat(18) + "+^1", 3);
        badRule("sing 1" + ";walk 1".repeat(11) + "; ^sing 1", 4);
        badRule("sing 1" + ";walk 1".repeat(11) + ";^sung 1", 0);
    }

    private static void person() {
        LoudHouse x = home();
        int[][] dues = {{0, 0, 4, 13, 0, 5}, {0, 0, 8, 8, 1, 7}, {1, 0, 20, 23, 0, 0}};
        for (int p = 0; p < 3; p++) {
            for (int what = 0; what < 6; what++) {
                due("person(" + p + ", " + what + ")", x.person(p, what), dues[p][what]);
            }
        }
        due("person(0, 100)", x.person(0, 100), 4);
        due("person(0, 101)", x.person(0, 101), 6);
        int[] wrong = {-1, 6, 99, 102, FAR, LOW};
        for (int what : wrong) {
            due("person(0, " + what + ")", x.person(0, what), -1);
        }
        int[] nobody = {-1, 3, 7, FAR, LOW};
        for (int p : nobody) {
            due("person(" + p + ", 0)", x.person(p, 0), -1);
        }
        x.beat();
        int[][] then = {{0, 1, 6, 6}, {0, 1, 1, 1}, {1, 2, 20, 20}};
        for (int p = 0; p < 3; p++) {
            for (int what = 0; what < 4; what++) {
                due("then person(" + p + ", " + what + ")", x.person(p, what), then[p][what]);
            }
        }
        // Halves and fourths are each taken downwards; rooms two apart are not heard.
        LoudHouse y = home("house 3 1;person 0 1;person 0 3;person 0 5;person 1 7;person 2 30");
        due("heard of 0", y.person(0, 3), 1 + 1 + 2 + 1);
        due("heard of 3", y.person(3, 3), 7 + 0 + 0 + 1 + 7);
        due("heard of 4", y.person(4, 3), 30 + 1);
        due("no house", new LoudHouse().person(0, 0), -1);
        close("person");
    }

    private static void thing() {
        LoudHouse x = home();
        int[][] dues = {{0, 0, 6, 6}, {2, 0, 0, 0}};
        for (int t = 0; t < 2; t++) {
            for (int what = 0; what < 4; what++) {
                due("thing(" + t + ", " + what + ")", x.thing(t, what), dues[t][what]);
            }
        }
        due("thing(0, 4)", x.thing(0, 4), -1);
        due("thing(0, -1)", x.thing(0, -1), -1);
        due("thing(2, 0)", x.thing(2, 0), -1);
        due("thing(-1, 0)", x.thing(-1, 0), -1);
        due("thing(most, 0)", x.thing(FAR, 0), -1);
        x.beat();
        due("then its storey", x.thing(0, 1), 1);
        due("then heard", x.thing(0, 3), 1);
        due("then the other's storey", x.thing(1, 1), 0);
        // What all sing together, deaf ones too, and not what each hears; not below 0.
        LoudHouse y = home("house 2 1;person 0 7;person 0 9;person 1 30;deaf 0;thing 0 5;thing 0 60");
        due("heard of 0", y.thing(0, 3), 11);
        due("heard of 1", y.thing(1, 3), 0);
        LoudHouse z = home(LIFTED_THINGS);
        z.beat();
        for (int t = 0; t < 3; t++) {
            due("the storey of " + t, z.thing(t, 1), t);
        }
        close("thing");
    }

    private static void storey() {
        LoudHouse x = home();
        int[][] dues = {{0, 0}, {4, 0}, {5, 1}, {14, 1}, {15, 2}, {9999, 2}, {-1, -1}, {10000, -1}, {FAR, -1}, {LOW, -1}};
        for (int[] d : dues) {
            due("storey(" + d[0] + ")", x.storey(d[0]), d[1]);
        }
        due("no span", home("house 1 1").storey(9999), 0);
        LoudHouse y = home("house 1 1" + ";span 40".repeat(7));
        due("below the last", y.storey(279), 6);
        due("the last", y.storey(280), 7);
        due("no house", new LoudHouse().storey(0), -1);
        close("storey");
    }

    private static void at() {
        LoudHouse x = home();
        due("at(0, 0)", x.at(0, 0), 3);
        due("at(1, 0)", x.at(1, 0), 4);
        due("at(2, 0)", x.at(2, 0), 0);
        due("at(0, 2)", x.at(0, 2), 0);
        int[][] wrong = {{3, 0}, {-1, 0}, {0, 3}, {0, -1}, {FAR, 0}, {0, FAR}};
        for (int[] w : wrong) {
            due("at(" + w[0] + ", " + w[1] + ")", x.at(w[0], w[1]), -1);
        }
        x.beat();
        due("then at(0, 0)", x.at(0, 0), 0);
        due("then at(0, 1)", x.at(0, 1), 3);
        due("then at(1, 2)", x.at(1, 2), 4);
        x.walk(1, 1);
        due("behind a walk at(1, 1)", x.at(1, 1), 2);
        due("no house", new LoudHouse().at(0, 0), -1);
        close("at");
    }

    /** Brings a house to a beat by a rule that changes nobody's voice. */
    private static void goTo(LoudHouse x, int beat) {
        int number = x.count(5);
        teach(x, "walk 0");
        for (int k = 0; k < 100 && x.count(6) < beat; k++) {
            x.run(number, Math.min(100, beat - x.count(6)));
        }
        due("beat then", x.count(6), beat);
    }

    private static void beat() {
        LoudHouse x = home();
        due("beat()", x.beat(), 1);
        due("0", x.person(0, 1), 1);
        due("1", x.person(1, 1), 1);
        due("2", x.person(2, 1), 2);
        due("thing 0", x.thing(0, 1), 1);
        due("thing 1", x.thing(1, 1), 0);
        // Then 0 hears 6, 1 hears 1, 2 hears 20, and the thing 7 - 6.
        due("beat()", x.beat(), 2);
        due("0", x.person(0, 1), 1);
        due("1", x.person(1, 1), 0);
        due("2", x.person(2, 1), 2);
        due("thing 0", x.thing(0, 1), 0);
        // The hour is 0 again: 0 is alone with 4, 1 with 8 beside the thing.
        due("beat()", x.beat(), 3);
        due("0", x.person(0, 1), 0);
        due("1", x.person(1, 1), 1);
        due("thing 0", x.thing(0, 1), 0);
        due("acts", x.count(8), 3);
        goTo(x, 9998);
        due("the last one", x.beat(), 9999);
        due("one more", x.beat(), -1);
        due("nothing happened", x.count(6), 9999);
        due("nor can it be undone", x.count(8), 1);
        due("no house", new LoudHouse().beat(), -1);
        close("beat");
    }

    private static void sing() {
        LoudHouse x = home();
        due("sing(0, 30)", x.sing(0, 30), 2);
        due("1 is deaf", x.person(1, 1), 1);
        due("2", x.person(2, 1), 2);
        due("thing 0 hears 32", x.thing(0, 1), 2);
        due("beat", x.count(6), 1);
        due("the voice stays", x.person(0, 100), 4);
        due("acts", x.count(8), 1);
        x = home();
        due("sing(2, 0)", x.sing(2, 0), 0);
        due("0 hears 8", x.person(0, 1), 1);
        int[][] wrong = {{0, 31}, {0, -1}, {3, 0}, {-1, 0}, {FAR, 0}, {0, FAR}, {LOW, LOW}};
        for (int[] w : wrong) {
            due("sing(" + w[0] + ", " + w[1] + ")", x.sing(w[0], w[1]), -1);
        }
        due("nothing happened", x.count(6), 1);
        due("acts", x.count(8), 1);
        goTo(x, 9998);
        due("at beat 9998", x.sing(0, 30), 2);
        due("at beat 9999", x.sing(0, 0), -1);
        due("no house", new LoudHouse().sing(0, 0), -1);
        close("sing");
    }

    private static void tune() {
        LoudHouse x = home();
        due("tune(0, 1, 30)", x.tune(0, 1, 30), 6);
        due("tune(0, 1, 0)", x.tune(0, 1, 0), 30);
        due("the other hour", x.person(0, 100), 4);
        due("this hour", x.person(0, 101), 0);
        due("the other one", x.person(1, 101), 1);
        due("tune(2, 0, 20), the same", x.tune(2, 0, 20), 20);
        due("acts", x.count(8), 3);
        due("no beat", x.count(6), 0);
        int[][] wrong = {{0, 0, 31}, {0, 0, -1}, {0, 2, 1}, {0, -1, 1}, {3, 0, 1}, {-1, 0, 1}, {FAR, FAR, FAR}};
        for (int[] w : wrong) {
            due("tune(" + w[0] + ", " + w[1] + ", " + w[2] + ")", x.tune(w[0], w[1], w[2]), -1);
        }
        due("nothing happened", x.count(8), 3);
        due("no house", new LoudHouse().tune(0, 0, 0), -1);
        close("tune");
    }

    private static void walk() {
        LoudHouse x = home();
        x.beat();
        due("walk(0, 1)", x.walk(0, 1), 1);
        due("walk(0, 1)", x.walk(0, 1), 2);
        due("walk(0, 1) to no room", x.walk(0, 1), -1);
        due("its room", x.person(0, 0), 2);
        due("its storey", x.person(0, 1), 1);
        due("no beat", x.count(6), 1);
        due("walk(0, -1)", x.walk(0, -1), 1);
        due("walk(1, -1) to no room", x.walk(1, -1), -1);
        int[][] wrong = {{0, 0}, {0, 2}, {0, -2}, {3, 1}, {-1, 1}, {0, FAR}, {LOW, 1}};
        for (int[] w : wrong) {
            due("walk(" + w[0] + ", " + w[1] + ")", x.walk(w[0], w[1]), -1);
        }
        due("acts", x.count(8), 4);
        due("things stay", x.thing(0, 0), 0);
        due("no house", new LoudHouse().walk(0, 1), -1);
        close("walk");
    }

    private static void push() {
        LoudHouse x = home();
        due("push(1, -1), nobody there", x.push(1, -1), -1);
        due("push(0, -1) to no room", x.push(0, -1), -1);
        due("push(0, 1)", x.push(0, 1), 1);
        due("people stay", x.person(0, 0), 0);
        due("push(0, 1), 2 is there", x.push(0, 1), 2);
        due("push(0, -1), nobody there", x.push(0, -1), -1);
        due("acts", x.count(8), 2);
        int[][] wrong = {{2, 1}, {-1, 1}, {0, 0}, {0, 2}, {FAR, 1}, {0, LOW}};
        for (int[] w : wrong) {
            due("push(" + w[0] + ", " + w[1] + ")", x.push(w[0], w[1]), -1);
        }
        due("nothing happened", x.count(8), 2);
        // In the same room, yet on another storey.
        LoudHouse y = home("house 2 1;span 5;person 0 9;thing 0 60");
        y.beat();
        due("above it", y.push(0, 1), -1);
        due("its room", y.thing(0, 0), 0);
        LoudHouse z = home(LIFTED_THINGS);
        z.beat();
        due("below them", z.push(0, 1), -1);
        due("with them", z.push(1, 1), 1);
        due("above them", z.push(2, 1), -1);
        due("rooms", z.thing(0, 0) * 100 + z.thing(1, 0) * 10 + z.thing(2, 0), 10);
        due("no house", new LoudHouse().push(0, 1), -1);
        close("push");
    }

    private static void undo() {
        LoudHouse x = home();
        due("nothing yet", x.undo(), -2);
        x.beat();
        x.sing(1, 30);
        x.tune(0, 0, 9);
        x.walk(0, 1);
        x.walk(0, -1);
        x.push(0, 1);
        x.ear(0, 0, 7);
        x.seed(5);
        int acts = x.count(8);
        due("undo()", x.undo(), acts - 1);
        while (x.count(8) > 3) {
            x.undo();
        }
        due("its room", x.person(0, 0), 0);
        due("tuned", x.person(0, 100), 9);
        due("undo()", x.undo(), 2);
        due("not tuned", x.person(0, 100), 4);
        due("undo()", x.undo(), 1);
        due("beat", x.count(6), 1);
        due("1", x.person(1, 1), 1);
        due("2", x.person(2, 1), 2);
        due("thing 0", x.thing(0, 1), 1);
        due("undo()", x.undo(), 0);
        due("beat", x.count(6), 0);
        due("2", x.person(2, 1), 0);
        due("thing 0", x.thing(0, 1), 0);
        due("ears stay", x.count(7), 1);
        due("x stays", x.count(9), 5);
        due("no more", x.undo(), -2);
        x.push(0, 1);
        due("pushed", x.thing(0, 0), 1);
        due("undo()", x.undo(), 0);
        due("not pushed", x.thing(0, 0), 0);
        for (int v = 1; v <= 25; v++) {
            x.tune(0, 0, v);
        }
        due("20 at most", x.count(8), 20);
        for (int k = 19; k >= 0; k--) {
            due("undo()", x.undo(), k);
        }
        due("the last 20", x.person(0, 100), 5);
        due("no more", x.undo(), -2);
        close("undo");
    }

    /** In a house of four rooms, whether a fact holds for somebody in room 1, who then walks. */
    private static void fact(String fact, boolean holds) {
        LoudHouse x = home("house 4 3;span 5;span 5;person 0 1 2 3;person 1 9 5 6;person 1 4 4 4;person 2 8 7 8;thing 1 60;"
            + "thing 1 50;thing 0 0");
        x.beat();
        x.beat();
        // At beat 2, hour 2, all of them are on storeys 0, 1, 1 and 1, and the things on 0.
        teach(x, "walk 1 if person=1 and[" + fact + "]");
        x.run(0, 1);
        due("\"" + fact + "\": the room", x.person(1, 0), holds ? 2 : 1);
    }

    private static void run() {
        words();
        operators();
        order();
        LoudHouse x = home();
        due("no rule", x.run(0, 1), -1);
        teach(x, "sing 0");
        int[][] wrong = {{1, 1}, {-1, 1}, {0, 0}, {0, 101}, {0, -1}, {FAR, 1}, {0, FAR}, {LOW, LOW}};
        x.beat();
        for (int[] w : wrong) {
            due("run(" + w[0] + ", " + w[1] + ")", x.run(w[0], w[1]), -1);
        }
        due("nothing happened", x.count(8), 1);
        due("run(0, 1)", x.run(0, 1), 2);
        due("nothing to be undone", x.undo(), -2);
        due("run(0, 100)", x.run(0, 100), 102);
        goTo(x, 9950);
        due("beyond 9999", x.run(0, 50), -1);
        due("nothing happened", x.count(6), 9950);
        due("up to 9999", x.run(0, 49), 9999);
        due("no more", x.run(0, 1), -1);
        LoudHouse y = new LoudHouse();
        teach(y, "sing 0");
        due("no house", y.run(0, 1), -1);
        close("run");
    }

    private static void words() {
        fact("person=1", true);
        fact("room=1", true);
        fact("storey=1", true);
        fact("voice=6", true);
        fact("heard=6+2+2", true);
        fact("hour=2", true);
        fact("beat=2", true);
        fact("crowd=1", true);
        fact("near=1", true);
        fact("things=0", true);
        fact("top=2", true);
        // At first all are on storey 0.
        LoudHouse x = home("house 4 1;person 0 1;person 1 9;person 1 4;person 2 8;thing 1 60;thing 1 50;thing 0 0");
        teach(x, "walk 1 if person=1 and near=2 and crowd=1 and things=2 and top=0 and storey=0");
        x.run(0, 1);
        due("its room", x.person(1, 0), 2);
        // A deaf one hears what they sing themselves alone.
        LoudHouse y = home("house 2 1;person 0 5;person 0 9;deaf 0");
        teach(y, "walk heard-4");
        y.run(0, 1);
        due("deaf", y.person(0, 0), 1);
        due("not deaf", y.person(1, 0), 0);
    }

    private static void operators() {
        fact("7-2-1=4 and 7-2+1=6", true);
        fact("2+3*4=14", true);
        fact("2*3%4=2 and 7/2*2=6", true);
        fact("0-7/2=0-3 and 0-7%2=0-1", true);
        fact("7/0=0 and 7%0=0", true);
        fact("room-8/3=0-1 and room-8%3=0-1", true);
        fact("99999*99999*99999*99999*99999*0=0", true);
        // 10 to the 19th goes round to below 0; 2 to the 64th is 0.
        fact("10000*10000*10000*10000*1000<0", true);
        fact("65536*65536*65536*65536=0", true);
        fact("65536*65536*65536*32768<0", true);
        fact("1<2 and not 2<2 and not 3<2", true);
        fact("1<=2 and 2<=2 and not 3<=2", true);
        fact("not 1=2 and 2=2", true);
        fact("not 1>=2 and 2>=2 and 3>=2", true);
        fact("not 1>2 and not 2>2 and 3>2", true);
        fact("1=1 or 1=1 and 1=2", true);
        fact("[1=1 or 1=1]and 1=2", false);
        fact("1=2 and 1=1 or 1=1", true);
        fact("not 1=2 and 1=2", false);
        fact("not[1=2 and 1=2]", true);
        fact("not not 1=1 and not not not 1=2", true);
        fact("1=2 or 1=2 or 1=2", false);
    }

    private static void order() {
        // The first clause that holds is the one, be its sum a way or not; walks to no room are none.
        LoudHouse x = home("house 3 1;person 1 1");
        teach(x, "walk 2;walk 1");
        teach(x, "walk 1 if beat=99;walk 0-1 if beat=1;walk 1");
        x.run(0, 1);
        due("walk 2", x.person(0, 0), 1);
        x.run(1, 1);
        due("walk 0-1", x.person(0, 0), 0);
        x.run(1, 3);
        due("walk 1 thrice", x.person(0, 0), 2);
        // A sum of 2 to the 32nd and 1 is no way, though its low bits are.
        teach(x, "walk 0-65536*65536-1");
        x.run(2, 1);
        due("far ways", x.person(0, 0), 2);
        // People walk one behind another: 1 sees that 0 has gone already.
        LoudHouse y = home("house 3 1;person 0 1;person 0 1");
        teach(y, "walk 1 if crowd=1");
        y.run(0, 1);
        due("0 walks", y.person(0, 0), 1);
        due("1 stays", y.person(1, 0), 0);
        // What is sung is asked behind all walks; sums are held to 0 to 30; without a clause it is the voice.
        LoudHouse z = home("house 3 1;span 10;span 19;span 40;person 0 12;person 0 1;person 2 5;deaf 0;deaf 1;deaf 2");
        teach(z, "walk 1 if person=2-room*2 and 0=1;sing 99 if person=1;walk 0-1 if person=2;sing 0-5 if near=2");
        z.run(0, 1);
        due("2 walks", z.person(2, 0), 1);
        due("0 sings their voice", z.person(0, 1), 1);
        due("1 sings 30", z.person(1, 1), 2);
        due("2 sings 0", z.person(2, 1), 0);
        // Heard by others is what is sung, not the voice.
        LoudHouse w = home("house 1 1;span 10;person 0 1;person 0 1");
        teach(w, "sing 65536*65536 if person=0;sing 0-65536*65536");
        w.run(0, 1);
        due("1 hears 15", w.person(1, 1), 1);
        w.run(0, 1);
        due("the hour goes on", w.person(0, 1), 1);
    }

    private static void ahead() {
        LoudHouse x = home();
        int[][] dues = {{0, 1, 1, 0}, {0, 1, 0, 1}, {0, 2, 2, 2}};
        for (int p = 0; p < 3; p++) {
            for (int n = 0; n < 4; n++) {
                due("ahead(" + p + ", " + n + ")", x.ahead(p, n), dues[p][n]);
            }
        }
        due("ahead(2, 200)", x.ahead(2, 200), 2);
        int[][] wrong = {{0, 201}, {0, -1}, {3, 0}, {-1, 0}, {0, FAR}, {FAR, 0}};
        for (int[] w : wrong) {
            due("ahead(" + w[0] + ", " + w[1] + ")", x.ahead(w[0], w[1]), -1);
        }
        due("nothing changes", x.count(6), 0);
        LoudHouse y = home("house 1 2;span 5;person 0 1 9");
        goTo(y, 9999);
        // The beat behind 9999, of hour 1, is loud; the next one is not.
        due("beyond 9999", y.ahead(0, 1), 1);
        due("and further", y.ahead(0, 2), 0);
        due("no house", new LoudHouse().ahead(0, 0), -1);
        close("ahead");
    }

    private static void looped(LoudHouse x, int first, int between, int top) {
        due("loop(0)", x.loop(0), first);
        due("loop(1)", x.loop(1), between);
        due("loop(2)", x.loop(2), top);
    }

    private static void loop() {
        LoudHouse x = home("house 1 2;span 5;person 0 1 9");
        looped(x, 1, 2, 1);
        due("loop(3)", x.loop(3), -1);
        due("loop(-1)", x.loop(-1), -1);
        x.beat();
        looped(x, 0, 2, 1);
        looped(home("house 1 3;person 0 1 1 1"), 0, 3, 0);
        looped(home("house 1 1;span 5;span 5;person 0 4;person 0 12"), 1, 1, 2);
        looped(home("house 2 1;span 5;person 0 4;person 1 4"), 1, 1, 1);
        // 0 and 1 lift one another to 1 and 2 once, and come down to 0 and 1: the highest is of the loop alone.
        looped(home("house 1 1;span 5;span 4;person 0 4;person 0 8"), 2, 1, 1);
        // Things count as well: this one is lifted by three deaf ones, and falls alone.
        looped(home("house 1 1;span 5;person 0 3;person 0 3;person 0 3;deaf 0;deaf 1;deaf 2;thing 0 0"), 0, 2, 0);
        looped(home("house 1 4;span 5;thing 0 0"), 0, 4, -2);
        LoudHouse y = home("house 1 2;span 5;person 0 1 9");
        goTo(y, 9999);
        looped(y, 0, 2, 1);
        due("no house", new LoudHouse().loop(0), -1);
        close("loop");
    }

    private static void met(LoudHouse x, int people, int storey, int[] dues) {
        for (int what = 0; what < 5; what++) {
            due("meet(" + people + ", " + storey + ", " + what + ")", x.meet(people, storey, what), dues[what]);
        }
    }

    private static void meet() {
        LoudHouse x = home("house 2 1;span 5;span 10;person 0 4;person 1 12;person 0 2;person 1 0");
        int[] no = {-2, -2, -2, -2, -2};
        met(x, 3, -1, new int[] {0, 0, 0, 0, -1});
        // 0 hears a + b / 4 + 1, and 1 hears b + a / 4.
        met(x, 3, 1, new int[] {8, 1, 3, 5, -1});
        met(x, 3, 2, new int[] {24, 2, 11, 13, -1});
        // 2 alone hears what it sings, 4 / 2 and 12 / 4.
        met(x, 4, -1, new int[] {0, 1, 0, -1, -1});
        met(x, 4, 0, no);
        met(x, 4, 2, new int[] {10, 2, 10, -1, -1});
        // 0 and 2, with 3 of 1: a + c / 2 + 3 and c + a / 2 + 3.
        met(x, 5, 1, new int[] {3, 1, 1, 2, -1});
        met(x, 7, 0, new int[] {0, 0, 0, 0, 0});
        // 3 hears what it sings, 4 / 4, 12 / 2 and 2 / 4.
        met(x, 8, 2, new int[] {8, 2, 8, -1, -1});
        met(home("house 1 1;span 40;person 0 5"), 1, 1, no);
        met(home("house 1 1;span 30;person 0 5"), 1, 1, new int[] {30, 1, 30, -1, -1});
        met(home("house 1 1;span 30;span 30;person 0 5;person 0 5;person 0 5"), 7, 2, new int[] {90, 2, 30, 30, 30});
        int[][] wrong = {{0, -1, 0}, {16, -1, 0}, {-1, -1, 0}, {15, -1, 0}, {1, 3, 0}, {1, -2, 0}, {1, 0, 5}, {1, 0, -1},
            {FAR, 0, 0}, {LOW, 0, 0}, {1, FAR, 0}};
        for (int[] w : wrong) {
            due("meet(" + w[0] + ", " + w[1] + ", " + w[2] + ")", x.meet(w[0], w[1], w[2]), -3);
        }
        // The deaf one hears nothing of the others, and they hear the deaf one.
        LoudHouse y = home("house 1 1;span 5;person 0 0;person 0 0;deaf 0");
        met(y, 3, 1, new int[] {8, 1, 5, 3, -1});
        due("nothing changes", x.person(0, 2), 4);
        due("no house", new LoudHouse().meet(1, -1, 0), -3);
        close("meet");
    }

    private static void carried(LoudHouse x, int thing, int storey, int beats, int first) {
        due("carry(" + thing + ", " + storey + ", 0)", x.carry(thing, storey, 0), beats);
        due("carry(" + thing + ", " + storey + ", 1)", x.carry(thing, storey, 1), first);
    }

    private static void carry() {
        LoudHouse x = home("house 1 1;span 5;span 30;person 0 1;person 0 1;thing 0 6;thing 0 60");
        carried(x, 0, 0, 0, -2);
        carried(x, 0, 1, 1, 1);
        carried(x, 0, 2, 1, 3);
        carried(x, 1, 1, -3, -3);
        int[][] wrong = {{2, 0, 0}, {-1, 0, 0}, {0, 3, 0}, {0, -1, 0}, {0, 0, 2}, {0, 0, -1}, {FAR, FAR, FAR}};
        for (int[] w : wrong) {
            due("carry(" + w[0] + ", " + w[1] + ", " + w[2] + ")", x.carry(w[0], w[1], w[2]), -1);
        }
        // One who is above the thing must come down to it first.
        LoudHouse y = home("house 1 1;span 5;person 0 9;thing 0 20");
        y.beat();
        carried(y, 0, 1, 2, 0);
        due("nothing changes", y.person(0, 1), 1);
        // Nobody is where it is.
        carried(home("house 2 1;span 5;person 0 1;thing 1 0"), 0, 1, -3, -3);
        carried(home("house 2 1;span 5;thing 1 0"), 0, 1, -3, -3);
        // Seven who sing or not come to far more than 600 situations; what comes early enough is known.
        LoudHouse z = home("house 4 1;span 7;span 8;span 15;span 7;span 8;span 15;span 7;person 0 1;person 0 1;person 1 1;"
            + "person 1 1;person 2 1;person 2 1;person 2 1;thing 3 0;thing 2 0");
        carried(z, 0, 1, -4, -4);
        carried(z, 1, 3, 1, 16);
        // These come to 600 situations in all, and to 601, all without the thing's being anywhere else.
        carried(home("house 4 1;span 22;span 7;person 2 1;person 0 1;person 1 1;person 2 1;person 0 1;person 2 1;person 1 1;"
            + "thing 3 0"), 0, 1, -3, -3);
        carried(home("house 4 1;span 37;span 7;span 30;span 31;span 37;person 1 1;person 1 1;person 0 1;person 2 1;"
            + "person 0 1;person 1 1;person 1 1;thing 3 0"), 0, 1, -4, -4);
        due("no house", new LoudHouse().carry(0, 0, 0), -1);
        close("carry");
    }

    private static void lifted() {
        LoudHouse x = home("house 2 1;span 5;span 10;person 0 4;person 0 8;person 1 20");
        due("lifted(0)", x.lifted(0), 0);
        // 15 without 2, or without 5, is 1 storey less.
        due("lifted(1)", x.lifted(1), 5);
        due("lifted(2)", x.lifted(2), 0);
        due("lifted(3)", x.lifted(3), -1);
        due("lifted(-1)", x.lifted(-1), -1);
        due("lifted(most)", x.lifted(FAR), -1);
        LoudHouse y = home("house 2 2;span 5;span 10;person 0 4 4;person 0 8 0;person 1 20 0;deaf 1");
        due("nobody lifts a deaf one", y.lifted(1), 0);
        // Behind a beat they are on storeys 1, 1 and 2, and their voices 4, 0 and 0.
        y.beat();
        due("alone", y.lifted(0), 0);
        due("no house", new LoudHouse().lifted(0), -1);
        close("lifted");
    }

    private static void each() {
        LoudHouse x = home("house 2 2;span 5;span 10;person 0 4 1;person 0 8 1;person 1 20 1;deaf 2");
        int[][] dues = {{0, 0, -2}, {0, 1, 0}, {0, 2, 6}, {1, 0, -2}, {1, 1, 0}, {1, 2, 8}, {2, 0, 0}, {2, 1, 5}, {2, 2, 15}};
        for (int[] d : dues) {
            due("each(" + d[0] + ", " + d[1] + ")", x.each(d[0], d[1]), d[2]);
        }
        int[][] wrong = {{3, 0}, {-1, 0}, {0, 3}, {0, -1}, {FAR, 0}, {0, LOW}};
        for (int[] w : wrong) {
            due("each(" + w[0] + ", " + w[1] + ")", x.each(w[0], w[1]), -1);
        }
        due("30 at most", home("house 1 1;span 30;person 0 1").each(0, 1), 30);
        due("31 is too much", home("house 1 1;span 31;person 0 1").each(0, 1), -2);
        due("no house", new LoudHouse().each(0, 0), -1);
        close("each");
    }

    private static void beds() {
        LoudHouse x = home("house 2 1;span 5;person 0 4;person 0 4");
        due("on storey 0", x.beds(0, 0, -1), 0);
        due("nor a first way", x.beds(0, 0, 0), -2);
        due("on storey 1", x.beds(1, 0, -1), 4);
        due("the first way", x.beds(1, 0, 1), 0);
        LoudHouse y = home("house 3 2;span 5;person 1 4 0;person 1 4 4;thing 0 0");
        due("two apart", y.beds(0, 0, -1), 2);
        due("0 in the first", y.beds(0, 0, 0), 0);
        due("1 in the first", y.beds(0, 0, 1), 2);
        for (int p = 2; p <= 6; p++) {
            due("nobody " + p, y.beds(0, 0, p), -2);
        }
        due("in the other hour", y.beds(0, 1, -1), 9);
        due("above", y.beds(1, 1, -1), 0);
        due("rooms stay", y.person(0, 0), 1);
        y.tune(1, 1, 30);
        // 1 hears 30; 0 hears 15 in the same room, 7 beside it, and else 0.
        due("tuned, below", y.beds(0, 1, -1), 0);
        due("tuned, above", y.beds(1, 1, -1), 7);
        due("nobody at all", home("house 4 1").beds(0, 0, -1), 1);
        due("nobody's room", home("house 4 1").beds(0, 0, 0), -2);
        due("seven in four", home("house 4 1" + ";person 0 0".repeat(7)).beds(0, 0, -1), 16384);
        int[][] wrong = {{2, 0, -1}, {-1, 0, -1}, {0, 2, -1}, {0, -1, -1}, {0, 0, -2}, {0, 0, 7}, {FAR, 0, 0}, {0, FAR, 0}};
        for (int[] w : wrong) {
            due("beds(" + w[0] + ", " + w[1] + ", " + w[2] + ")", y.beds(w[0], w[1], w[2]), -3);
        }
        due("no house", new LoudHouse().beds(0, 0, -1), -3);
        close("beds");
    }

    private static void bought(String text, int coins, int set) {
        LoudHouse x = home(text);
        due("quiet(0, 0)", x.quiet(0, 0), coins);
        due("quiet(0, 1)", x.quiet(0, 1), set);
    }

    private static void quiet() {
        String four = "house 1 1;span 5;person 0 3;person 0 2;person 0 2;person 0 2";
        bought(four + ";asks 1 3;asks 2 3;asks 3 3", 6, 6);
        bought(four + ";asks 1 9;asks 2 3;asks 3 3", 6, 12);
        bought(four + ";asks 2 5;asks 3 4", 4, 10);
        bought(four + ";asks 0 50", 0, 6);
        bought("house 1 1;span 5;person 0 3;person 0 3;asks 1 7", 0, 0);
        bought("house 1 1;span 5;person 0 4;person 0 9;asks 1 7;deaf 0", 0, 0);
        bought("house 1 1;span 5;person 0 9;person 0 9;asks 1 7", 0, 0);
        LoudHouse x = home(four);
        int[][] wrong = {{4, 0}, {-1, 0}, {0, 2}, {0, -1}, {FAR, 0}};
        for (int[] w : wrong) {
            due("quiet(" + w[0] + ", " + w[1] + ")", x.quiet(w[0], w[1]), -1);
        }
        due("no house", new LoudHouse().quiet(0, 0), -1);
        close("quiet");
    }

    private static void ear() {
        LoudHouse x = home();
        for (int k = 1; k <= 8; k++) {
            due("ear " + k, x.ear(2, 2, 30), k);
        }
        due("a ninth", x.ear(0, 0, 0), -2);
        due("ears", x.count(7), 8);
        due("none then", x.ear(-1, 99, 99), 0);
        due("ears", x.count(7), 0);
        int[][] wrong = {{3, 0, 0}, {-2, 0, 0}, {0, 3, 0}, {0, -1, 0}, {0, 0, 31}, {0, 0, -1}, {FAR, 0, 0}, {0, 0, LOW}};
        for (int[] w : wrong) {
            due("ear(" + w[0] + ", " + w[1] + ", " + w[2] + ")", x.ear(w[0], w[1], w[2]), -2);
        }
        due("nothing happened", x.count(7), 0);
        due("no act", x.count(8), 0);
        due("no house", new LoudHouse().ear(0, 0, 0), -2);
        due("no house, none", new LoudHouse().ear(-1, 0, 0), 0);
        close("ear");
    }

    private static void suspected(LoudHouse x, int all, int room, int storey, int hum) {
        int[] dues = {all, room, storey, hum};
        for (int what = 0; what < 4; what++) {
            due("thief(" + what + ")", x.thief(what), dues[what]);
        }
    }

    private static void thief() {
        LoudHouse x = home("house 3 1;span 9");
        suspected(x, 180, 0, 0, 1);
        x.ear(1, 0, 5);
        // 5 there; 10 and 11 in both rooms beside; 20 to 23 above.
        suspected(x, 9, 0, 0, 10);
        x.ear(0, 0, 0);
        suspected(x, 6, 1, 1, 20);
        x.ear(2, 0, 1);
        suspected(x, 0, -2, -2, -2);
        x.ear(-1, 0, 0);
        x.ear(0, 1, 7);
        // Below: 28 to 30, no more; beside: 14 and 15.
        suspected(x, 6, 0, 0, 28);
        due("thief(4)", x.thief(4), -1);
        due("thief(-1)", x.thief(-1), -1);
        // Heard nowhere: two storeys apart, two rooms apart, or both a room and a storey; or too low.
        LoudHouse y = home("house 3 1;span 9;span 9");
        y.ear(0, 0, 0);
        suspected(y, 1 + 3 + 30 * 6, 0, 1, 1);
        due("no house", new LoudHouse().thief(0), -1);
        close("thief");
    }

    private static void nextEar() {
        LoudHouse x = home("house 3 1;span 9");
        x.ear(1, 0, 5);
        due("room", x.nextEar(0), 0);
        due("storey", x.nextEar(1), 1);
        due("stay", x.nextEar(2), 3);
        due("nextEar(3)", x.nextEar(3), -1);
        due("nextEar(-1)", x.nextEar(-1), -1);
        x.ear(1, 0, 6);
        for (int what = 0; what < 3; what++) {
            due("no thief", x.nextEar(what), -2);
        }
        // One room on one storey: each hum is told apart.
        LoudHouse y = home("house 1 1");
        due("room", y.nextEar(0), 0);
        due("storey", y.nextEar(1), 0);
        due("stay", y.nextEar(2), 1);
        // Two rooms on one storey: from each, the other's hums fall in with halves, 2 and 1 of them.
        LoudHouse z = home("house 2 1");
        due("room", z.nextEar(0), 0);
        due("stay", z.nextEar(2), 3);
        due("no house", new LoudHouse().nextEar(0), -1);
        close("nextEar");
    }

    private static void hushed(LoudHouse x, int[] dues) {
        for (int what = 0; what < 8; what++) {
            due("fire(" + what + ")", x.fire(what), what < dues.length ? dues[what] : -2);
        }
    }

    private static void fire() {
        LoudHouse x = home("house 1 1;span 5;person 0 1;person 0 9");
        hushed(x, new int[] {0, 0, 1});
        x.beat();
        hushed(x, new int[] {1, 1, 0});
        due("fire(8)", x.fire(8), -1);
        due("fire(-1)", x.fire(-1), -1);
        due("nothing changes", x.count(6), 1);
        // Each by themselves too loud: as many beats as people, in the first order.
        LoudHouse y = home("house 1 1;span 5;person 0 9;person 0 9;person 0 9;deaf 0;deaf 1;deaf 2;thing 0 0");
        y.beat();
        hushed(y, new int[] {3, 0, 1, 2});
        // 2 is loud in hour 0 alone, and 0 in both; the hour of the first beat is 1.
        LoudHouse z = home("house 3 2;span 5;person 0 9 9;person 2 9 1");
        z.beat();
        hushed(z, new int[] {1, 0, 1});
        z.beat();
        z.sing(1, 9);
        hushed(z, new int[] {1, 0, 1});
        hushed(home("house 1 1"), new int[] {0});
        LoudHouse w = home("house 4 1;span 9" + ";person 1 9".repeat(7) + ";thing 1 0");
        w.beat();
        hushed(w, new int[] {7, 0, 1, 2, 3, 4, 5, 6});
        due("no house", new LoudHouse().fire(0), -1);
        close("fire");
    }

    private static void rent() {
        LoudHouse x = home();
        due("rent(0)", x.rent(0), 10);
        x.beat();
        due("then rent(0)", x.rent(0), 5);
        due("then rent(1)", x.rent(1), 15);
        due("then rent(2)", x.rent(2), 15);
        due("rent(3)", x.rent(3), -1);
        due("rent(-1)", x.rent(-1), -1);
        due("rent(most)", x.rent(FAR), -1);
        LoudHouse y = home(LIFTED_THINGS);
        due("things by themselves", y.rent(0), 15);
        y.beat();
        due("thing 0", y.rent(0), 5);
        due("two people, thing 1", y.rent(1), 15);
        due("thing 2", y.rent(2), 5);
        due("no house", new LoudHouse().rent(0), -1);
        close("rent");
    }

    private static void highest() {
        LoudHouse x = home();
        due("all below", x.highest(), 0);
        x.beat();
        due("2 is highest", x.highest(), 2);
        // 0 hears 6 and 8, which is not enough.
        x.sing(1, 16);
        due("1 and 2 are", x.highest(), 1);
        due("no people", home("house 1 1;thing 0 1").highest(), -2);
        due("no house", new LoudHouse().highest(), -1);
        close("highest");
    }

    private static void seed() {
        LoudHouse x = new LoudHouse();
        due("seed(7)", x.seed(7), 0);
        due("seed(most)", x.seed(FAR), 7);
        due("seed(-1)", x.seed(-1), -1);
        due("seed(least)", x.seed(LOW), -1);
        due("nothing happened", x.count(9), FAR);
        due("seed(0)", x.seed(0), FAR);
        close("seed");
    }

    private static void draws(LoudHouse x, int m, int n, int rises, int tops) {
        due("drawn(" + m + ", " + n + ", 0)", x.drawn(m, n, 0), rises);
        due("drawn(" + m + ", " + n + ", 1)", x.drawn(m, n, 1), tops);
    }

    private static void drawn() {
        // From 0 on the draws are 0, 21468, 9988, 22117, 3498: of one person, nobody sneezes in the fourth.
        LoudHouse x = home("house 1 1;span 5;person 0 1");
        draws(x, 1, 1, 1, 1);
        draws(x, 1, 3, 1, 1);
        draws(x, 1, 4, 1, 0);
        draws(x, 1, 5, 2, 1);
        draws(x, 4, 1, 3, 3);
        draws(x, 5, 1, 4, 4);
        // Two beats, twice: the second time ends with nobody's, and fell from where the sneeze had lifted.
        draws(x, 2, 2, 2, 1);
        due("x is as it was", x.count(9), 0);
        due("all is as it was", x.count(6) + x.person(0, 1), 0);
        x.seed(12345);
        draws(x, 1, 3, 1, 0);
        x.sing(0, 9);
        // From storey 1 on, it falls with the third alone.
        draws(x, 1, 3, 0, 0);
        draws(x, 1, 4, 1, 1);
        // Of two people: 0, 0 (21468 mod 3), 1 (9988 mod 3) sneeze, then 1 again (22117 mod 3).
        LoudHouse y = home("house 3 1;span 20;person 0 1;person 2 1");
        draws(y, 1, 1, 1, 1);
        draws(y, 1, 3, 2, 1);
        draws(y, 4, 1, 4, 4);
        draws(home("house 2 1"), 3, 3, 0, 0);
        draws(home("house 1 1;person 0 3;person 0 3"), 20, 60, 0, 40);
        int[][] wrong = {{0, 1, 0}, {21, 1, 0}, {1, 0, 0}, {1, 61, 0}, {1, 1, 2}, {1, 1, -1}, {FAR, FAR, 0}, {LOW, LOW, 0}};
        for (int[] w : wrong) {
            due("drawn(" + w[0] + ", " + w[1] + ", " + w[2] + ")", x.drawn(w[0], w[1], w[2]), -1);
        }
        due("no house", new LoudHouse().drawn(1, 1, 0), -1);
        close("drawn");
    }

    private static void count() {
        LoudHouse x = home();
        teach(x, "sing 1");
        x.beat();
        x.walk(0, 1);
        x.ear(0, 0, 0);
        x.seed(99);
        x.feed(0, 0, 0, 0, 0);
        int[] dues = {3, 2, 3, 3, 2, 1, 1, 1, 2, 99, 20};
        for (int what = 0; what < dues.length; what++) {
            due("count(" + what + ")", x.count(what), dues[what]);
        }
        due("count(11)", x.count(11), -1);
        due("count(-1)", x.count(-1), -1);
        due("count(most)", x.count(FAR), -1);
        due("2 without a house", new LoudHouse().count(2), -1);
        close("count");
    }

    private static void image() {
        LoudHouse x = new LoudHouse();
        due("image(0) without a house", x.image(0), 0);
        Texts.house(x, HOME);
        x.beat();
        x.beat();
        due("image(3)", x.image(3), 2);
        due("image(4)", x.image(4), -1);
        due("image(-1)", x.image(-1), -1);
        due("image(most)", x.image(FAR), -1);
        x.beat();
        due("image(3) again", x.image(3), 3);
        x.undo();
        due("the later one", x.back(3), 3);
        due("back(0)", x.back(0), 0);
        due("there is no house", x.highest(), -1);
        due("nor storeys", x.count(2), -1);
        due("nor people", x.count(3), 0);
        due("beat()", x.beat(), -1);
        close("image");
    }

    private static void back() {
        LoudHouse x = home();
        due("never made", x.back(0), -1);
        x.beat();
        x.tune(0, 0, 9);
        x.ear(0, 1, 6);
        x.seed(5);
        x.image(0);
        x.undo();
        x.sing(0, 30);
        x.walk(0, 1);
        x.push(0, 1);
        x.ear(-1, 0, 0);
        x.seed(6);
        teach(x, "walk 1");
        x.feed(0, 0, 0, 0, 0);
        due("back(0)", x.back(0), 1);
        int[] dues = {3, 2, 3, 3, 2, 1, 1, 1, 2, 5, 20};
        for (int what = 0; what < dues.length; what++) {
            due("count(" + what + ")", x.count(what), dues[what]);
        }
        due("room", x.person(0, 0), 0);
        due("storey", x.person(0, 1), 1);
        due("voice", x.person(0, 100), 9);
        // 6 there, 12 and 13 in the room beside, 24 to 27 above and below.
        due("the ear", x.thief(0), 1 + 2 + 8);
        due("thing", x.thing(0, 1), 1);
        due("undo()", x.undo(), 1);
        due("voice", x.person(0, 100), 4);
        due("undo()", x.undo(), 0);
        due("storey", x.person(0, 1), 0);
        due("again", x.back(0), 1);
        due("acts again", x.count(8), 2);
        due("never made", x.back(1), -1);
        due("back(4)", x.back(4), -1);
        due("back(-1)", x.back(-1), -1);
        due("back(least)", x.back(LOW), -1);
        Texts.house(x, "house 1 1");
        due("to another house", x.back(0), 1);
        due("its people", x.count(3), 3);
        due("its coins", x.person(0, 5), 5);
        due("its deaf one", x.person(1, 4), 1);
        due("its weights", x.thing(0, 2), 6);
        due("its spans", x.storey(14), 1);
        close("back");
    }
}
