/** What bounds what is asked: Terms III, promises 17 to 28 and 32. */
final class AskEdges {
    private static final String HOME = "house 3 2;span 5;span 10;person 0 4 6;person 0 8 1;person 1 20 20;deaf 1;thing 0 6;"
        + "thing 2 0;asks 0 5;asks 1 7";
    private static final String EIGHT = ";span 1".repeat(7);
    private static final int FAR = Edges.FAR;
    private static final int LOW = Edges.LOW;

    private final Edges t;

    AskEdges(Edges t) {
        this.t = t;
    }

    void all() {
        nothingChanges();
        ahead();
        loop();
        longLoops();
        meet();
        meetWithout();
        carry();
        situations();
        lifted();
        each();
        beds();
        quiet();
        ear();
        thief();
        nextEar();
        fire();
        drawn();
        drawnWithout();
    }

    /** A house of one who is quiet at even beats and loud at odd ones, at a beat. */
    private LoudHouse late(int beat) {
        LoudHouse x = t.home("house 2 2;span 5;person 0 1 9;thing 0 0");
        t.goTo(x, beat);
        return x;
    }

    private void nothingChanges() {
        t.edge("Terms", "(By what is asked nothing changes;", "all that can be asked", () -> {
            LoudHouse x = t.home(HOME);
            x.beat();
            x.walk(0, 1);
            x.seed(99);
            x.ear(0, 0, 3);
            String before = Edges.look(x);
            x.ahead(0, 200);
            x.loop(2);
            x.meet(7, -1, 4);
            x.carry(0, 2, 1);
            x.lifted(0);
            x.each(0, 2);
            x.beds(1, 1, 0);
            x.quiet(0, 1);
            x.thief(3);
            x.nextEar(2);
            x.fire(1);
            x.rent(1);
            x.highest();
            x.drawn(20, 60, 0);
            x.image(0);
            t.same("a house asked", Edges.look(x), before);
            t.due("undo()", x.undo(), 1);
        });
        t.edge("Terms", "BEATS that are asked go on, also beyond 9999.", "each that asks for beats", () -> {
            LoudHouse x = late(9999);
            t.due("ahead(0, 1)", x.ahead(0, 1), 1);
            t.due("loop(1)", x.loop(1), 2);
            t.due("carry(0, 1, 0)", x.carry(0, 1, 0), 1);
            t.due("each(0, 1)", x.each(0, 1), 5);
            t.due("meet(1, 1, 0)", x.meet(1, 1, 0), 5);
            t.due("drawn(1, 1, 1)", x.drawn(1, 1, 1), 1);
            t.due("beat()", x.beat(), -1);
        });
    }

    // ---- promises 17 and 18

    private void ahead() {
        t.edge("Terms", "AHEAD n BEATS (0 to 200)", "0 is now", () -> {
            LoudHouse x = t.home("house 1 2;span 5;person 0 9 1");
            t.due("ahead(0, 0)", x.ahead(0, 0), 0);
            x.beat();
            t.due("ahead(0, 0)", x.ahead(0, 0), 1);
        });
        t.edge("Terms", "AHEAD n BEATS (0 to 200)", "1, 199 and 200", () -> {
            LoudHouse x = t.home("house 1 2;span 5;person 0 9 1");
            t.due("ahead(0, 1)", x.ahead(0, 1), 1);
            t.due("ahead(0, 199)", x.ahead(0, 199), 1);
            t.due("ahead(0, 200)", x.ahead(0, 200), 0);
        });
        for (int n : new int[] {-1, 201, FAR, LOW}) {
            t.edge("Promise 17", "AHEAD; NONE without these", "n " + n, () -> t.due("ahead(0, " + n + ")", t.home(HOME).ahead(0, n), -1));
        }
        for (int person : new int[] {-1, 3, 7, FAR, LOW}) {
            t.edge("Promise 17", "AHEAD; NONE without these", "person " + person + " of three", () ->
                t.due("ahead(" + person + ", 0)", t.home(HOME).ahead(person, 0), -1));
        }
        t.edge("Promise 17", "AHEAD; NONE without these", "no people, and no house", () -> {
            t.due("ahead(0, 0)", t.home("house 1 1;thing 0 0").ahead(0, 0), -1);
            t.due("ahead(0, 0)", new LoudHouse().ahead(0, 0), -1);
        });
        t.edge("Terms", "BEATS that are asked go on, also beyond 9999.", "ahead from 9998 and 9999", () -> {
            LoudHouse x = late(9999);
            t.due("ahead(0, 1)", x.ahead(0, 1), 1);
            t.due("ahead(0, 2)", x.ahead(0, 2), 0);
            t.due("ahead(0, 199)", x.ahead(0, 199), 1);
            t.due("ahead(0, 200)", x.ahead(0, 200), 0);
            LoudHouse y = late(9998);
            t.due("from 9998 ahead(0, 1)", y.ahead(0, 1), 0);
            t.due("from 9998 ahead(0, 2)", y.ahead(0, 2), 1);
        });
    }

    private void loops(LoudHouse x, int till, int between, int highest) {
        t.due("loop(0)", x.loop(0), till);
        t.due("loop(1)", x.loop(1), between);
        t.due("loop(2)", x.loop(2), highest);
    }

    private void loop() {
        t.edge("Promise 18", "LOOP what 0: BEATS till then from now, 1: BEATS between, 2: the highest STOREY", "all stays", () ->
            loops(t.home("house 1 1;person 0 30"), 0, 1, 0));
        t.edge("Promise 18", "0: BEATS till then from now", "0 within, 1 ahead, 2 ahead", () -> {
            LoudHouse x = t.home("house 1 1;span 5;span 4;person 0 4;person 0 8");
            // They hear 8 and 10, then, on storeys 1 and 2, 4 and 8, and so on.
            loops(x, 2, 1, 1);
            x.beat();
            loops(x, 1, 1, 1);
            x.beat();
            loops(x, 0, 1, 1);
        });
        t.edge("Terms", "till HOUR and STOREYS of all (THINGS too) are as they were", "the hour counts, 1 and 6 of them", () -> {
            loops(t.home("house 1 1;person 0 9"), 0, 1, 0);
            loops(t.home("house 1 6;person 0 9 9 9 9 9 9"), 0, 6, 0);
            loops(t.home("house 1 6;span 5;person 0 9 9 9 9 9 9"), 1, 6, 1);
            loops(t.home("house 1 2;span 5;person 0 1 9"), 1, 2, 1);
        });
        t.edge("Terms", "till HOUR and STOREYS of all (THINGS too) are as they were", "things count", () -> {
            // The thing is lifted from those who stay below, hears nobody, and falls.
            loops(t.home("house 1 1;span 5;person 0 3;person 0 3;deaf 0;deaf 1;thing 0 1"), 0, 2, 0);
            loops(t.home("house 1 3;span 5;person 0 3 3 3;person 0 3 3 3;deaf 0;deaf 1;thing 0 1"), 0, 6, 0);
            loops(t.home("house 1 1;span 5;person 0 3;person 0 3;deaf 0;deaf 1;thing 0 2"), 0, 1, 0);
            // The third alone is lifted.
            loops(t.home("house 1 1;span 5;person 0 3;person 0 3;deaf 0;deaf 1;thing 0 9;thing 0 9;thing 0 1"), 0, 2, 0);
        });
        t.edge("Terms", "the highest STOREY a PERSON is on in these", "the last of eight, by the last of seven, and no thing's", () -> {
            loops(t.home("house 1 1" + ";span 4".repeat(7) + ";person 0 0".repeat(6) + ";person 0 30"), 2, 1, 7);
            loops(t.home("house 1 1;span 5;person 0 3;person 0 3;deaf 0;deaf 1;thing 0 1"), 0, 2, 0);
        });
        t.edge("Terms", "the highest STOREY a PERSON is on in these", "not one ahead of them, or where all are at first", () -> {
            LoudHouse x = t.home("house 1 1;span 5;span 5;span 5;person 0 1");
            x.sing(0, 30);
            // From storey 3 it falls to 0, and stays.
            loops(x, 1, 1, 0);
        });
        t.edge("Terms", "the highest STOREY a PERSON is on in these", "not one asked for before", () -> {
            LoudHouse x = t.home("house 1 1;span 5;person 0 9");
            loops(x, 1, 1, 1);
            x.tune(0, 0, 0);
            loops(x, 0, 1, 0);
        });
        t.edge("Promise 18", "(-2: no PEOPLE)", "2 alone", () -> {
            loops(t.home("house 1 1;thing 0 0"), 0, 1, -2);
            loops(t.home("house 1 6"), 0, 6, -2);
        });
        for (int what : new int[] {-1, 3, FAR, LOW}) {
            t.edge("Promise 18", "NONE without these, or a HOUSE", "what " + what, () ->
                t.due("loop(" + what + ")", t.home(HOME).loop(what), -1));
        }
        t.edge("Promise 18", "NONE without these, or a HOUSE", "no house", () -> {
            LoudHouse x = new LoudHouse();
            loops(x, -1, -1, -1);
        });
        t.edge("Terms", "BEATS that are asked go on, also beyond 9999.", "loop from 9999", () -> loops(late(9999), 0, 2, 1));
    }

    /** Five deaf ones, who carry things about in rounds of 3, 4 and 5 days, and two who are as they were after 11 or 7 days. */
    private static final String NEARLY = "house 4 3;span 6;span 3;span 5;span 4;span 1;span 2;span 5;person 0 14 12 16;"
        + "person 0 20 12 8;person 1 0 12 28;person 1 17 26 17;person 1 21 17 11;person 1 26 12 25;person 1 30 22 26;deaf 2;"
        + "deaf 3;deaf 4;deaf 5;deaf 6;thing 1 4;thing 1 3;thing 1 1";
    private static final String BEYOND = "house 4 5;span 1;span 7;span 2;span 1;span 5;span 6;span 4;person 2 15 14 9 10 20;"
        + "person 2 19 18 5 15 10;person 1 29 24 11 21 25;person 1 0 20 30 25 19;person 1 18 7 0 6 16;person 1 12 28 22 23 0;"
        + "person 1 6 1 16 29 7;deaf 2;deaf 3;deaf 4;deaf 5;deaf 6;thing 1 3;thing 1 2;thing 1 1";

    /** The first one's days told twice as one of 6 hours, and changed till a thing takes long to come to its round. */
    private static final String NEARER = "house 4 6;span 5;span 4;span 5;span 4;span 2;span 1;span 5;person 0 14 13 17 14 12 16;"
        + "person 0 20 12 7 20 12 8;person 1 0 12 30 3 11 29;person 1 17 26 17 16 26 13;person 1 21 16 10 21 17 17;"
        + "person 1 30 25 24 26 9 30;person 1 26 9 29 30 25 25;deaf 2;deaf 3;deaf 4;deaf 5;deaf 6;thing 1 3;thing 1 1;thing 1 2";

    private void longLoops() {
        t.edge("Terms", "(2000 BEATS at most: else it is UNKNOWN.)", "1 and 1980 beats: 3 hours, 11 days, 60 days", () ->
            loops(t.home(NEARLY), 1, 1980, 7));
        t.edge("Terms", "(2000 BEATS at most: else it is UNKNOWN.)", "19 and 1980 beats: 1999 in all", () -> {
            LoudHouse x = t.home(NEARER);
            t.goTo(x, 8);
            loops(x, 0, 1980, 7);
            x.sing(4, 4);
            loops(x, 19, 1980, 7);
            x.beat();
            loops(x, 18, 1980, 7);
        });
        t.edge("Terms", "(2000 BEATS at most: else it is UNKNOWN.)", "420 beats, as the third thing of the next is left out", () ->
            loops(t.home(BEYOND.replace(";thing 1 1", "")), 2, 420, 7));
        t.edge("Promise 18", "-3: UNKNOWN", "2100 beats: 5 hours, 7 days, 60 days", () -> {
            LoudHouse x = t.home(BEYOND);
            loops(x, -3, -3, -3);
            t.due("loop(3)", x.loop(3), -1);
            x.beat();
            loops(x, -3, -3, -3);
        });
    }

    // ---- promise 19

    private void meets(LoudHouse x, int people, int storey, int... dues) {
        for (int what = 0; what < dues.length; what++) {
            t.due("meet(" + people + ", " + storey + ", " + what + ")", x.meet(people, storey, what), dues[what]);
        }
    }

    private void meet() {
        String three = "house 1 1;span 30;span 30;person 0 5;person 0 5;person 0 5";
        t.edge("Terms", "MEET of a set of PEOPLE (1 to 3)", "one, two and three", () -> {
            LoudHouse x = t.home("house 4 1;span 5;person 0 0;person 3 0;person 3 0");
            meets(x, 1, 1, 5, 1, 5, -1, -1);
            meets(x, 3, 1, 10, 1, 5, 5, -1);
            // In one room 3 and 4 come to 3 + 2 and 4 + 1; no 6 together come to 5 for both.
            meets(x, 6, 1, 7, 1, 3, 4, -1);
            meets(x, 7, 1, 12, 1, 5, 3, 4);
        });
        for (int people : new int[] {0, 15, 120, 127, 128, 129, -1, FAR, LOW}) {
            t.edge("Promise 19", "-3 without these", "the set " + people + " of seven", () ->
                t.due("meet(" + people + ", -1, 0)", t.home("house 1 1" + ";person 0 1".repeat(7)).meet(people, -1, 0), -3));
        }
        t.edge("Terms", "MEET of a set of PEOPLE (1 to 3)", "the last three of seven", () ->
            meets(t.home("house 1 1" + ";person 0 1".repeat(7)), 112, -1, 0, 0, 0, 0, 0));
        t.edge("Promise 19", "2 to 4: the VOICE of the first, second, third one of the set (NONE: so many there are not)", "of one and two",
            () -> {
                LoudHouse x = t.home("house 4 1;span 5;person 0 0;person 3 9;person 0 0");
                meets(x, 4, 1, 5, 1, 5, -1, -1);
                meets(x, 2, 0, 0, 0, 0, -1, -1);
                // The first of the set is the one of the least number, as in a row.
                meets(x, 5, 1, 7, 1, 3, 4, -1);
                meets(x, 6, 1, 10, 1, 5, 5, -1);
            });
        t.edge("Terms", "the least together", "0, and 90", () -> {
            meets(t.home(three), 7, 0, 0, 0, 0, 0, 0);
            meets(t.home(three), 7, 2, 90, 2, 30, 30, 30);
        });
        t.edge("Promise 19", "-2: there is no way", "90 is one too few, and one by others too many", () -> {
            LoudHouse x = t.home("house 1 1;span 31;span 30;person 0 5;person 0 5;person 0 5");
            meets(x, 7, 2, -2, -2, -2, -2, -2);
            LoudHouse y = t.home("house 1 1;span 2;person 0 5;person 0 5");
            meets(y, 1, 0, -2, -2, -2);
            meets(y, 3, 0, 0, 0, 0, 0);
        });
        t.edge("Promise 19", "-2: there is no way", "one voice of 30 is enough, or one too few", () -> {
            meets(t.home("house 1 1;span 30;person 0 5"), 1, 1, 30, 1, 30);
            meets(t.home("house 1 1;span 31;person 0 5"), 1, 1, -2, -2, -2);
        });
        t.edge("Promise 19", "-2: there is no way", "to any: a deaf one is heard, and hears not", () -> {
            // 1 hears 45 at least, and is on storey 1; 0 hears 30 at most, and is not.
            LoudHouse x = t.home("house 1 1;span 31;person 0 0;person 0 0;person 0 30;person 0 30;person 0 30;deaf 0");
            meets(x, 3, -1, -2, -2, -2, -2);
        });
        t.edge("Terms", "of several the least as a row", "of two and three", () -> {
            // 2 and 4, 3 and 3, 4 and 2.
            meets(t.home("house 1 1;span 4;person 0 9;person 0 9"), 3, 1, 6, 1, 2, 4, -1);
            // Each hears 2 + 1 + 1; with 0 or 1 the first would hear 3 at most.
            meets(t.home("house 1 1;span 4;person 0 9;person 0 9;person 0 9"), 7, 1, 6, 1, 2, 2, 2);
        });
        t.edge("Terms", "(to a told one, or to any)", "any: none together meets nowhere, 3 do", () -> {
            LoudHouse x = t.home("house 2 1;span 5;person 0 0;person 1 0;person 1 10");
            meets(x, 3, -1, 3, 1, 3, 0, -1);
            meets(x, 3, 1, 3, 1, 3, 0, -1);
            meets(x, 3, 0, -2, -2, -2, -2);
        });
        t.edge("Terms", "VOICES for these in the next BEAT", "the others sing as told in the hour of now", () -> {
            LoudHouse x = t.home("house 1 2;span 40;person 0 0 0;person 0 30 0");
            t.due("by 30 of 1 in hour 0", x.meet(1, 1, 0), 25);
            x.beat();
            t.due("by none in hour 1", x.meet(1, 1, 0), -2);
            // 1 hears 5 of 0, who is not of the set.
            meets(t.home("house 1 1;span 9;person 0 10;person 0 0"), 2, 1, 4, 1, 4, -1, -1);
        });
    }

    private void meetWithout() {
        for (int storey : new int[] {-2, 3, 8, FAR, LOW}) {
            t.edge("Promise 19", "-3 without these", "storey " + storey + " of three", () ->
                t.due("meet(1, " + storey + ", 0)", t.home(HOME).meet(1, storey, 0), -3));
        }
        for (int what : new int[] {-1, 5, FAR, LOW}) {
            t.edge("Promise 19", "-3 without these", "what " + what, () ->
                t.due("meet(7, -1, " + what + ")", t.home(HOME).meet(7, -1, what), -3));
        }
        t.edge("Promise 19", "-3 without these", "one of the set is none of three", () -> {
            t.due("meet(8, -1, 0)", t.home(HOME).meet(8, -1, 0), -3);
            t.due("meet(9, -1, 0)", t.home(HOME).meet(9, -1, 0), -3);
            t.due("meet(least + 1, -1, 0)", t.home(HOME).meet(LOW + 1, -1, 0), -3);
        });
        t.edge("Promise 19", "-3 without these", "no people, and no house", () -> {
            t.due("meet(1, -1, 0)", t.home("house 1 1").meet(1, -1, 0), -3);
            t.due("meet(0, -1, 0)", t.home("house 1 1").meet(0, -1, 0), -3);
            t.due("meet(1, -1, 0)", new LoudHouse().meet(1, -1, 0), -3);
        });
    }

    // ---- promise 20

    private void carries(LoudHouse x, int thing, int storey, int beats, int first) {
        t.due("carry(" + thing + ", " + storey + ", 0)", x.carry(thing, storey, 0), beats);
        t.due("carry(" + thing + ", " + storey + ", 1)", x.carry(thing, storey, 1), first);
    }

    private void carry() {
        t.edge("Promise 20", "(-2: it is there)", "on the first storey, and on the last", () -> {
            LoudHouse x = t.home("house 1 1;span 5;person 0 9;thing 0 0;thing 0 9");
            carries(x, 0, 0, 0, -2);
            x.beat();
            carries(x, 0, 1, 0, -2);
            carries(x, 1, 0, 0, -2);
            carries(t.home("house 1 1;thing 0 60"), 0, 0, 0, -2);
        });
        t.edge("Terms", "in each BEAT each PERSON sings 30 or not at all", "30 is enough, or one too few", () -> {
            carries(t.home("house 1 1;span 30;person 0 1;thing 0 0"), 0, 1, 1, 1);
            carries(t.home("house 1 1;span 31;person 0 1;thing 0 0"), 0, 1, -3, -3);
            carries(t.home("house 1 1;span 1;person 0 1;thing 0 29"), 0, 1, 1, 1);
            carries(t.home("house 1 1;span 1;person 0 1;thing 0 30"), 0, 1, -3, -3);
        });
        t.edge("Promise 20", "-3: there is no way (for all)", "no people, nobody near, a storey between that is jumped over", () -> {
            carries(t.home("house 1 1;span 1;thing 0 0"), 0, 1, -3, -3);
            carries(t.home("house 2 1;span 1;person 0 1;thing 1 0"), 0, 1, -3, -3);
            LoudHouse x = t.home("house 1 1;span 5;span 5;person 0 1;thing 0 0");
            carries(x, 0, 1, -3, -3);
            carries(x, 0, 2, 1, 1);
        });
        t.edge("Terms", "who sings in the first one (of all ways of so few the least as bits)", "one of two, two of three, all seven", () -> {
            carries(t.home("house 1 1;span 1;person 0 1;person 0 1;thing 0 0"), 0, 1, 1, 1);
            carries(t.home("house 2 1;span 1;person 1 1;person 0 1;person 0 1;thing 0 0"), 0, 1, 1, 2);
            carries(t.home("house 1 1;span 40;span 20;person 0 1;person 0 1;person 0 1;thing 0 0"), 0, 2, 1, 3);
            carries(t.home("house 1 1;span 40;span 40;span 40;span 30" + ";person 0 1".repeat(7) + ";thing 0 60"), 0, 4, 1, 127);
            carries(t.home("house 4 1;span 1" + ";person 0 1".repeat(6) + ";person 3 1;thing 3 0"), 0, 1, 1, 64);
        });
        t.edge("Terms", "CARRY a THING to a STOREY", "each of three things", () -> {
            LoudHouse x = t.home("house 3 1;span 1;person 1 0;person 2 9;thing 0 0;thing 1 0;thing 2 0");
            carries(x, 0, 1, -3, -3);
            carries(x, 1, 1, 1, 1);
            carries(x, 2, 1, 1, 2);
            x.beat();
            carries(x, 0, 0, 0, -2);
            carries(x, 1, 0, 0, -2);
            carries(x, 2, 1, 0, -2);
        });
        t.edge("Terms", "the fewest BEATS behind which it is there", "2: one must come down first", () -> {
            LoudHouse x = t.home("house 1 1;span 5;person 0 9;thing 0 20");
            x.beat();
            carries(x, 0, 1, 2, 0);
        });
        t.edge("Terms", "who sings in the first one (of all ways of so few the least as bits)", "of 2 beats", () -> {
            // 0 is above the thing, and must be still in the first beat; 1, elsewhere, may do as they like.
            LoudHouse x = t.home("house 4 1;span 5;person 0 9;person 3 9;thing 0 20");
            x.beat();
            carries(x, 0, 1, 2, 0);
            // By one it hears 5, by two 35.
            LoudHouse y = t.home("house 1 1;span 5;span 20;person 0 9;person 0 9;person 0 9;thing 0 25");
            carries(y, 0, 1, 1, 1);
            carries(y, 0, 2, 1, 3);
        });
        for (int thing : new int[] {-1, 2, 3, FAR, LOW}) {
            t.edge("Promise 20", "NONE without these", "thing " + thing + " of two", () -> carries(t.home(HOME), thing, 0, -1, -1));
        }
        for (int storey : new int[] {-1, 3, 8, FAR, LOW}) {
            t.edge("Promise 20", "NONE without these", "storey " + storey + " of three", () -> carries(t.home(HOME), 0, storey, -1, -1));
        }
        for (int what : new int[] {-1, 2, FAR, LOW}) {
            t.edge("Promise 20", "NONE without these", "what " + what, () ->
                t.due("carry(0, 0, " + what + ")", t.home(HOME).carry(0, 0, what), -1));
        }
        t.edge("Promise 20", "NONE without these", "no things, and no house", () -> {
            carries(t.home("house 1 1;person 0 1"), 0, 0, -1, -1);
            carries(new LoudHouse(), 0, 0, -1, -1);
        });
    }

    private void situations() {
        t.edge("Terms", "600 at most", "600 in all, in none of which it is there", () ->
            carries(t.home("house 4 1;span 8;span 8;span 25;span 6;span 16;person 2 1;person 2 1;person 0 1;person 1 1;person 3 1;"
                + "person 1 1;deaf 2;thing 1 30"), 0, 1, -3, -3));
        // Seven deaf ones sing or not, which is 128 ways, and of each way in which k sing the thing heard 0 to k: 576 in all.
        String deaf = "house 2 1" + ";span 30".repeat(7) + ";person 0 1".repeat(7) + ";deaf 0;deaf 1;deaf 2;deaf 3;deaf 4;deaf 5;deaf 6";
        t.edge("Terms", "600 at most", "576 in all, in none of which it is there", () ->
            carries(t.home(deaf + ";thing 0 0;thing 1 0"), 1, 1, -3, -3));
        t.edge("Promise 20", "-4: UNKNOWN", "more than 576, by another thing", () ->
            carries(t.home(deaf + ";thing 0 0;thing 0 30;thing 1 0"), 2, 1, -4, -4));
        t.edge("Terms", "600 at most, without the one in which it is there", "it is there before there are too many", () ->
            carries(t.home(deaf + ";thing 0 0;thing 0 30;thing 1 0"), 1, 1, 1, 3));
        t.edge("Terms", "else it is UNKNOWN.", "601 in all, in none of which it is there", () ->
            carries(t.home("house 4 1;span 10;span 19;person 1 1;person 0 1;person 1 1;person 3 1;person 2 1;person 0 1;person 2 1;"
                + "deaf 5;deaf 6;thing 0 39"), 0, 2, -4, -4));
    }

    // ---- promises 21 to 24

    private void lifted() {
        t.edge("Terms", "without whose singing (of each by itself) they would come to a lower STOREY", "just enough, and one more", () -> {
            t.due("5 of 5", t.home("house 1 1;span 5;person 0 4;person 0 2").lifted(0), 2);
            t.due("6 of 5", t.home("house 1 1;span 5;person 0 5;person 0 2").lifted(0), 0);
            t.due("4 of 5", t.home("house 1 1;span 5;person 0 3;person 0 2").lifted(0), 0);
        });
        t.edge("Terms", "without whose singing (of each by itself) they would come to a lower STOREY", "one would do for another", () -> {
            t.due("6", t.home("house 1 1;span 5;person 0 4;person 0 2;person 0 2").lifted(0), 0);
            t.due("5", t.home("house 1 1;span 5;person 0 3;person 0 2;person 0 2").lifted(0), 6);
        });
        t.edge("Terms", "of a PERSON those others", "not themselves, six others, nobody", () -> {
            t.due("alone", t.home("house 1 1;span 5;person 0 9").lifted(0), 0);
            LoudHouse x = t.home("house 1 1;span 18;person 0 0" + ";person 0 6".repeat(6));
            t.due("0 by six", x.lifted(0), 126);
            LoudHouse y = t.home("house 1 1;span 18" + ";person 0 6".repeat(6) + ";person 0 0");
            t.due("6 by six", y.lifted(6), 63);
        });
        t.edge("Terms", "without whose singing (of each by itself) they would come to a lower STOREY", "deaf, and far away", () -> {
            t.due("a deaf one", t.home("house 1 1;span 5;person 0 4;person 0 9;deaf 0").lifted(0), 0);
            t.due("by a deaf one", t.home("house 1 1;span 5;person 0 4;person 0 9;deaf 1").lifted(0), 2);
            t.due("two rooms away", t.home("house 3 1;span 5;person 0 4;person 2 30").lifted(0), 0);
            t.due("a room away", t.home("house 3 1;span 5;person 0 4;person 1 4").lifted(0), 2);
        });
        t.edge("Terms", "in the next BEAT, as bits", "of the hour now, and from where all are now", () -> {
            LoudHouse x = t.home("house 1 2;span 5;person 0 4 4;person 0 0 2");
            t.due("hour 0", x.lifted(0), 0);
            x.beat();
            t.due("hour 1", x.lifted(0), 2);
        });
        for (int person : new int[] {-1, 3, 7, FAR, LOW}) {
            t.edge("Promise 21", "NONE without that PERSON", "person " + person + " of three", () ->
                t.due("lifted(" + person + ")", t.home(HOME).lifted(person), -1));
        }
        t.edge("Promise 21", "NONE without that PERSON", "no people, and no house", () -> {
            t.due("lifted(0)", t.home("house 1 1").lifted(0), -1);
            t.due("lifted(0)", new LoudHouse().lifted(0), -1);
        });
    }

    private void each() {
        t.edge("Terms", "of VOICES 0 to 30 of theirs in the next BEAT", "0 is enough", () -> {
            t.due("storey 0", t.home("house 1 1;span 5;person 0 9").each(0, 0), 0);
            t.due("storey 1", t.home("house 1 1;span 5;person 0 9;person 0 10").each(0, 1), 0);
        });
        t.edge("Terms", "of VOICES 0 to 30 of theirs in the next BEAT", "30 is just enough, or one too few", () -> {
            t.due("30", t.home("house 1 1;span 30;person 0 1").each(0, 1), 30);
            t.due("31", t.home("house 1 1;span 31;person 0 1").each(0, 1), -2);
            t.due("30 and 1 of another", t.home("house 1 1;span 31;person 0 1;person 0 2").each(0, 1), 30);
        });
        t.edge("Terms", "the fewest for which they come to a STOREY (NONE: by none)", "where several do, and where 0 is too loud", () -> {
            LoudHouse x = t.home("house 1 1;span 5;span 5;person 0 30;person 0 10");
            t.due("storey 0", x.each(0, 0), -2);
            t.due("storey 1", x.each(0, 1), 0);
            t.due("storey 2", x.each(0, 2), 5);
        });
        t.edge("Promise 22", "-2: by none", "a storey too high, and one too low", () -> {
            t.due("too high", t.home("house 1 1;span 40;person 0 30").each(0, 1), -2);
            t.due("too low", t.home("house 1 1;span 5;person 0 30;person 0 10").each(0, 0), -2);
        });
        t.edge("Terms", "of VOICES 0 to 30 of theirs in the next BEAT", "the others' voices are those of the hour now", () -> {
            LoudHouse x = t.home("house 1 2;span 9;person 0 1 1;person 0 10 4");
            t.due("hour 0", x.each(0, 1), 4);
            LoudHouse y = t.home("house 1 2;span 40;person 0 1 1;person 0 10 30");
            y.beat();
            t.due("hour 1", y.each(0, 1), 25);
            t.due("of 1, who hears 5 of 0", t.home("house 1 1;span 9;person 0 10;person 0 0").each(1, 1), 4);
        });
        for (int person : new int[] {-1, 3, 7, FAR, LOW}) {
            t.edge("Promise 22", "NONE without these", "person " + person + " of three", () ->
                t.due("each(" + person + ", 0)", t.home(HOME).each(person, 0), -1));
        }
        for (int storey : new int[] {-1, 3, 8, FAR, LOW}) {
            t.edge("Promise 22", "NONE without these", "storey " + storey + " of three", () ->
                t.due("each(0, " + storey + ")", t.home(HOME).each(0, storey), -1));
        }
        t.edge("Promise 22", "NONE without these", "no people, and no house", () -> {
            t.due("each(0, 0)", t.home("house 1 1").each(0, 0), -1);
            t.due("each(0, 0)", new LoudHouse().each(0, 0), -1);
        });
    }

    private void beds() {
        t.edge("Terms", "all PEOPLE are there, each in some ROOM: in how many ways", "none, one, and all", () -> {
            LoudHouse x = t.home("house 1 1;span 5;person 0 9");
            t.due("none", x.beds(0, 0, -1), 0);
            t.due("one", x.beds(1, 0, -1), 1);
            t.due("the only way", x.beds(1, 0, 0), 0);
            t.due("4 rooms", t.home("house 4 1;person 0 9").beds(0, 0, -1), 4);
            t.due("4 rooms, 7 people", t.home("house 4 1" + ";person 0 30".repeat(7)).beds(0, 0, -1), 16384);
        });
        t.edge("Promise 23", "0 to 6: the ROOM of that PERSON in the first one", "the first and the seventh of seven", () -> {
            // The seventh, loud, must be far from the others, who are each below 1 then.
            LoudHouse x = t.home("house 4 1;span 4;person 3 0;person 3 0;person 3 0;person 3 0;person 3 0;person 3 0;person 3 3");
            t.due("ways", x.beds(0, 0, -1), 16384);
            LoudHouse y = t.home("house 3 1;span 1" + ";person 1 0".repeat(6) + ";person 0 0");
            t.due("0", y.beds(0, 0, 0), 0);
            t.due("6", y.beds(0, 0, 6), 0);
        });
        t.edge("Terms", "the first way (as a row by PEOPLE of ROOMS)", "the last one's room counts up first", () -> {
            // Both in rooms two apart: 0 2 comes ahead of 2 0.
            LoudHouse x = t.home("house 3 2;span 5;person 1 4 0;person 1 4 4");
            t.due("ways", x.beds(0, 0, -1), 2);
            t.due("0", x.beds(0, 0, 0), 0);
            t.due("1", x.beds(0, 0, 1), 2);
            t.due("as they are nothing changed", x.person(0, 0) + x.person(1, 0), 2);
        });
        t.edge("Promise 23", "(-2: there is none)", "no way", () -> {
            LoudHouse x = t.home("house 4 1;span 5;person 0 9;person 0 1");
            t.due("ways", x.beds(0, 0, -1), 0);
            t.due("0", x.beds(0, 0, 0), -2);
            t.due("1", x.beds(0, 0, 1), -2);
        });
        t.edge("Promise 23", "(-2: there is none)", "no such person, though there is a way", () -> {
            LoudHouse x = t.home("house 4 1;person 0 9");
            for (int what = 1; what <= 6; what++) {
                t.due("beds(0, 0, " + what + ")", x.beds(0, 0, what), -2);
            }
        });
        t.edge("Terms", "so that the STOREY of what is HEARD of each is that one", "as if all were there, wherever they are", () -> {
            // Each alone would be on 0; together in a room they lift one another.
            LoudHouse x = t.home("house 2 1;span 6;person 0 4;person 1 4");
            t.due("on 0: in rooms beside", x.beds(0, 0, -1), 2);
            t.due("its first way", x.beds(0, 0, 0) * 10 + x.beds(0, 0, 1), 1);
            t.due("on 1: in one room", x.beds(1, 0, -1), 2);
            t.due("its first way", x.beds(1, 0, 0) * 10 + x.beds(1, 0, 1), 0);
            x.beat();
            t.due("behind a beat", x.beds(1, 0, -1), 2);
        });
        t.edge("Promise 23", "int beds(int storey, int hour, int what)", "the first hour and the sixth", () -> {
            LoudHouse x = t.home("house 1 6;span 5;person 0 9 1 1 1 1 9");
            int[] dues = {0, 1, 1, 1, 1, 0};
            for (int hour = 0; hour < 6; hour++) {
                t.due("hour " + hour, x.beds(0, hour, -1), dues[hour]);
            }
        });
        int[][] wrong = {{-1, 0, -1}, {3, 0, -1}, {8, 0, -1}, {0, -1, -1}, {0, 2, -1}, {0, 6, -1}, {0, 0, -2}, {0, 0, 7}, {FAR, 0, -1},
            {LOW, 0, -1}, {0, FAR, -1}, {0, LOW, -1}, {0, 0, FAR}, {0, 0, LOW}};
        for (int[] w : wrong) {
            String which = "storey " + w[0] + " of three, hour " + w[1] + " of two, what " + w[2];
            t.edge("Promise 23", "-3 without these", which, () -> t.due("beds", t.home(HOME).beds(w[0], w[1], w[2]), -3));
        }
        t.edge("Promise 23", "-3 without these", "no house", () -> t.due("beds(0, 0, -1)", new LoudHouse().beds(0, 0, -1), -3));
    }

    private void quiets(String house, int coins, int set) {
        LoudHouse x = t.home(house);
        t.due("quiet(0, 0) in " + house, x.quiet(0, 0), coins);
        t.due("quiet(0, 1) in " + house, x.quiet(0, 1), set);
    }

    private void quiet() {
        String words = "the least coins by which the STOREY of what is HEARD of them is that of their VOICE alone";
        t.edge("Terms", words, "none need be paid", () -> {
            quiets("house 1 1;span 5;person 0 3", 0, 0);
            quiets("house 1 1;span 5;person 0 3;person 0 3;asks 1 9", 0, 0);
            quiets("house 1 1;span 5;person 0 5;person 0 30;asks 1 9", 0, 0);
            quiets("house 1 1;span 5;person 0 3;person 0 30;asks 1 9;deaf 0", 0, 0);
            quiets("house 3 1;span 5;person 0 3;person 2 30;asks 1 9", 0, 0);
        });
        t.edge("Terms", words, "just one too loud", () -> {
            quiets("house 1 1;span 5;person 0 3;person 0 4;asks 1 9", 9, 2);
            quiets("house 2 1;span 5;person 0 3;person 1 8;asks 1 99", 99, 2);
        });
        t.edge("Terms", words, "all six others, by the most coins", () -> {
            StringBuilder house = new StringBuilder("house 1 1;span 1;person 0 0" + ";person 0 2".repeat(6));
            for (int p = 1; p <= 6; p++) {
                house.append(";asks ").append(p).append(" 99");
            }
            quiets(house.toString(), 594, 126);
        });
        t.edge("Terms", "others who are paid what they ask sing nothing", "the first is paid by the second, and by the seventh", () -> {
            LoudHouse x = t.home("house 1 1;span 5;person 0 4;person 0 3;asks 0 9");
            t.due("quiet(1, 0)", x.quiet(1, 0), 9);
            t.due("quiet(1, 1)", x.quiet(1, 1), 1);
            LoudHouse y = t.home("house 1 1;span 5;person 0 4" + ";person 0 0".repeat(5) + ";person 0 3;asks 0 98;asks 6 1");
            t.due("quiet(6, 0)", y.quiet(6, 0), 98);
            t.due("quiet(6, 1)", y.quiet(6, 1), 1);
        });
        t.edge("Terms", "others who are paid what they ask sing nothing", "who asks nothing is quiet for 0", () -> {
            quiets("house 1 1;span 5;person 0 3;person 0 4", 0, 2);
            quiets("house 1 1;span 5;person 0 3;person 0 4;asks 0 50", 0, 2);
            quiets("house 1 1;span 5;person 0 3;person 0 4;person 0 4;asks 1 9", 9, 6);
        });
        t.edge("Terms", words, "two cheap ones for one dear one, and the other way", () -> {
            String house = "house 1 1;span 5;person 0 1;person 0 6;person 0 2;person 0 2";
            // 1 and 3, 1 and 1 are heard: one must go, 1 alone or both of the others; 6 are too many by 2.
            quiets(house + ";asks 1 9;asks 2 4;asks 3 4", 8, 12);
            quiets(house + ";asks 1 7;asks 2 4;asks 3 4", 7, 2);
        });
        t.edge("Terms", "of several sets the least as bits", "of the same coins", () -> {
            String house = "house 1 1;span 5;person 0 1;person 0 6;person 0 2;person 0 2";
            quiets(house + ";asks 1 8;asks 2 4;asks 3 4", 8, 2);
            quiets("house 1 1;span 5;person 0 3;person 0 2;person 0 2;asks 1 6;asks 2 6", 6, 2);
            quiets("house 1 1;span 5;person 0 3;person 0 2;person 0 2", 0, 2);
            quiets("house 1 1;span 5;person 0 3;person 0 4;person 0 0;asks 1 6", 6, 2);
        });
        t.edge("Terms", "sing nothing in the next BEAT", "by the hour now, and from where all are now", () -> {
            LoudHouse x = t.home("house 1 2;span 5;person 0 3 3;person 0 1 4;asks 1 9");
            t.due("hour 0", x.quiet(0, 0), 0);
            x.beat();
            t.due("hour 1", x.quiet(0, 0), 9);
        });
        t.edge("Promise 24", "QUIET what 0: coins, 1: the set, as bits; -2: there is none", "with all others still there is always one", () -> {
            LoudHouse x = t.home("house 4 1;span 1;span 1;span 1" + ";person 0 30".repeat(3) + ";person 1 30".repeat(4));
            for (int p = 0; p < 7; p++) {
                t.due("quiet(" + p + ", 0)", x.quiet(p, 0), 0);
            }
        });
        for (int person : new int[] {-1, 3, 7, FAR, LOW}) {
            t.edge("Promise 24", "NONE without these", "person " + person + " of three", () ->
                t.due("quiet(" + person + ", 0)", t.home(HOME).quiet(person, 0), -1));
        }
        for (int what : new int[] {-1, 2, FAR, LOW}) {
            t.edge("Promise 24", "NONE without these", "what " + what, () ->
                t.due("quiet(0, " + what + ")", t.home(HOME).quiet(0, what), -1));
        }
        t.edge("Promise 24", "NONE without these", "no people, and no house", () -> {
            t.due("quiet(0, 0)", t.home("house 1 1").quiet(0, 0), -1);
            t.due("quiet(0, 0)", new LoudHouse().quiet(0, 0), -1);
        });
    }

    // ---- promises 25 to 27

    private void ear() {
        t.edge("Terms", "EARS 0 to 7, told", "eight, of which the last counts", () -> {
            LoudHouse x = t.home("house 1 1");
            for (int k = 1; k <= 7; k++) {
                t.due("ear " + k, x.ear(0, 0, 9), k);
                t.due("thieves", x.thief(0), 1);
            }
            t.due("ear 8", x.ear(0, 0, 8), 8);
            t.due("thieves", x.thief(0), 0);
        });
        t.edge("Promise 25", "or if there are 8", "a ninth", () -> {
            LoudHouse x = t.home("house 1 1");
            for (int k = 1; k <= 8; k++) {
                x.ear(0, 0, 9);
            }
            t.due("a ninth", x.ear(0, 0, 8), -2);
            t.due("ears", x.count(7), 8);
            t.due("thieves", x.thief(0), 1);
        });
        t.edge("Promise 25", "(room NONE: there are none then, 0;", "of none, one and eight, whatever the other numbers are", () -> {
            LoudHouse x = t.home("house 1 1");
            t.due("of none", x.ear(-1, 0, 0), 0);
            x.ear(0, 0, 9);
            t.due("of one", x.ear(-1, -5, 99), 0);
            t.due("thieves", x.thief(0), 30);
            for (int k = 1; k <= 8; k++) {
                x.ear(0, 0, 9);
            }
            t.due("of eight", x.ear(-1, FAR, LOW), 0);
            t.due("ears", x.count(7), 0);
            t.due("another one then", x.ear(0, 0, 7), 1);
            t.due("its hum", x.thief(3), 7);
        });
        t.edge("Promise 25", "LOUDNESS 0 to 30", "0 and 30", () -> {
            LoudHouse x = t.home("house 2 1");
            t.due("0", x.ear(1, 0, 0), 1);
            t.due("30", x.ear(1, 0, 30), 2);
        });
        t.edge("Promise 25", "An EAR", "in the last room, on the last storey", () -> {
            LoudHouse x = t.home("house 4 1" + EIGHT);
            t.due("ear", x.ear(3, 7, 9), 1);
            t.due("thieves", x.thief(0), 3);
            t.due("the first's room", x.thief(1), 2);
            t.due("its storey", x.thief(2), 7);
            t.due("its hum", x.thief(3), 18);
        });
        int[][] wrong = {{-2, 0, 5}, {3, 0, 5}, {4, 0, 5}, {0, -1, 5}, {0, 3, 5}, {0, 8, 5}, {0, 0, -1}, {0, 0, 31}, {FAR, 0, 5}, {LOW, 0, 5},
            {0, FAR, 5}, {0, LOW, 5}, {0, 0, FAR}, {0, 0, LOW}};
        for (int[] w : wrong) {
            String which = "room " + w[0] + ", storey " + w[1] + " of three each, loudness " + w[2];
            t.edge("Promise 25", "-2, and nothing happens, without these", which, () -> {
                LoudHouse x = t.home(HOME);
                x.ear(0, 0, 9);
                String before = Edges.look(x);
                t.due("ear", x.ear(w[0], w[1], w[2]), -2);
                t.same("an ear refused", Edges.look(x), before);
            });
        }
        t.edge("Promise 25", "-2, and nothing happens, without these", "no house", () -> {
            LoudHouse x = new LoudHouse();
            t.due("ear(0, 0, 0)", x.ear(0, 0, 0), -2);
            t.due("ear(-1, 0, 0)", x.ear(-1, 0, 0), 0);
            t.due("ears", x.count(7), 0);
        });
    }

    /** A house with ears in it (rows of room, storey and loudness), and how many thieves there are, and the first. */
    private void suspects(String house, int[][] ears, int... dues) {
        LoudHouse x = t.home(house);
        for (int[] e : ears) {
            x.ear(e[0], e[1], e[2]);
        }
        for (int what = 0; what < dues.length; what++) {
            t.due("thief(" + what + ") in " + house, x.thief(what), dues[what]);
        }
    }

    private void thief() {
        int[][] none = {};
        t.edge("Terms", "THIEF: one who hums 1 to 30 in some ROOM on some STOREY.", "no ears", () -> {
            suspects("house 1 1", none, 30, 0, 0, 1);
            suspects("house 4 1" + EIGHT, none, 960, 0, 0, 1);
        });
        t.edge("Terms", "all of the hum in that ROOM there", "0, 1 and 30", () -> {
            suspects("house 1 1", new int[][] {{0, 0, 0}}, 0, -2, -2, -2);
            suspects("house 1 1", new int[][] {{0, 0, 1}}, 1, 0, 0, 1);
            suspects("house 1 1", new int[][] {{0, 0, 30}}, 1, 0, 0, 30);
        });
        t.edge("Terms", "half (downwards) in a ROOM beside on that STOREY", "0, 1, 15 and 16, on both sides", () -> {
            suspects("house 2 1", new int[][] {{0, 0, 0}}, 1, 1, 0, 1);
            suspects("house 2 1", new int[][] {{0, 0, 1}}, 3, 0, 0, 1);
            suspects("house 2 1", new int[][] {{0, 0, 15}}, 2, 0, 0, 15);
            suspects("house 2 1", new int[][] {{1, 0, 15}}, 2, 0, 0, 30);
            suspects("house 2 1", new int[][] {{1, 0, 16}}, 1, 1, 0, 16);
            suspects("house 3 1", new int[][] {{1, 0, 7}}, 5, 0, 0, 14);
        });
        t.edge("Terms", "a fourth (downwards) in that ROOM a STOREY above or below", "0, 1, 7 and 8, above and below", () -> {
            suspects("house 1 1;span 5", new int[][] {{0, 0, 0}}, 3, 0, 1, 1);
            suspects("house 1 1;span 5", new int[][] {{0, 0, 1}}, 5, 0, 0, 1);
            suspects("house 1 1;span 5", new int[][] {{0, 0, 7}}, 4, 0, 0, 7);
            suspects("house 1 1;span 5", new int[][] {{0, 1, 7}}, 4, 0, 0, 28);
            suspects("house 1 1;span 5", new int[][] {{0, 1, 8}}, 1, 0, 1, 8);
            suspects("house 1 1;span 5;span 5", new int[][] {{0, 1, 2}}, 9, 0, 0, 8);
        });
        t.edge("Terms", "else 0.", "two rooms, two storeys, a room and a storey apart; three rooms, seven storeys", () -> {
            suspects("house 3 1", new int[][] {{0, 0, 0}}, 31, 1, 0, 1);
            suspects("house 1 1;span 5;span 5", new int[][] {{0, 0, 0}}, 33, 0, 1, 1);
            suspects("house 2 1;span 5", new int[][] {{0, 0, 0}}, 34, 0, 1, 1);
            suspects("house 4 1", new int[][] {{0, 0, 0}}, 61, 1, 0, 1);
            suspects("house 4 1", new int[][] {{3, 0, 0}}, 61, 0, 0, 1);
            suspects("house 1 1" + EIGHT, new int[][] {{0, 7, 0}}, 183, 0, 0, 1);
        });
        t.edge("Terms", "THIEVES: ROOM, STOREY and hum by which all EARS heard so", "two ears that agree, and that don't", () -> {
            suspects("house 2 1", new int[][] {{0, 0, 10}, {1, 0, 20}}, 1, 1, 0, 20);
            suspects("house 2 1", new int[][] {{0, 0, 10}, {1, 0, 30}}, 0, -2, -2, -2);
            suspects("house 2 1", new int[][] {{0, 0, 10}, {0, 0, 10}}, 3, 0, 0, 10);
        });
        t.edge("Terms", "the first (by ROOMS, then STOREYS, then hums)", "rooms ahead of storeys, storeys ahead of hums", () -> {
            // In room 1 on storey 0 it is 7; in room 0 on storey 0 14 and 15; in room 1 on storey 1 28 to 30.
            suspects("house 2 1;span 5", new int[][] {{1, 0, 7}}, 6, 0, 0, 14);
            // In room 0: on storey 0 28 to 30, on storey 1 7.
            suspects("house 2 1;span 5", new int[][] {{0, 1, 7}}, 6, 0, 0, 28);
            // In room 0 it is 1 on storey 1; in room 1 it is 1 on storey 0.
            suspects("house 2 1;span 5", new int[][] {{0, 0, 0}, {1, 1, 0}}, 2, 0, 1, 1);
        });
        t.edge("Promise 26", "(-2: there is none)", "1 to 3; how many is 0", () ->
            suspects("house 1 1", new int[][] {{0, 0, 5}, {0, 0, 6}}, 0, -2, -2, -2));
        for (int what : new int[] {-1, 4, FAR, LOW}) {
            t.edge("Promise 26", "NONE without these, or a HOUSE", "what " + what, () ->
                t.due("thief(" + what + ")", t.home(HOME).thief(what), -1));
        }
        t.edge("Promise 26", "NONE without these, or a HOUSE", "no house", () -> {
            for (int what = 0; what < 4; what++) {
                t.due("thief(" + what + ")", new LoudHouse().thief(what), -1);
            }
        });
    }

    private void nextEars(String house, int[][] ears, int... dues) {
        LoudHouse x = t.home(house);
        for (int[] e : ears) {
            x.ear(e[0], e[1], e[2]);
        }
        for (int what = 0; what < 3; what++) {
            t.due("nextEar(" + what + ") in " + house, x.nextEar(what), dues[what]);
        }
    }

    private void nextEar() {
        int[][] none = {};
        t.edge("Terms", "where, whatever is heard, fewest THIEVES stay at most", "one place, and as many as there can be", () -> {
            nextEars("house 1 1", none, 0, 0, 1);
            // In the midst of 960, 818 are not heard.
            nextEars("house 4 1" + EIGHT, none, 1, 1, 818);
            nextEars("house 4 1", none, 1, 0, 32);
        });
        t.edge("Terms", "fewest THIEVES stay at most", "what is not heard counts as heard", () ->
            // An ear of 0: 1 to 30 two storeys away are not heard from the first storey, and 1 to 3 from the second.
            nextEars("house 1 1;span 5;span 5", new int[][] {{0, 0, 0}}, 0, 2, 3));
        t.edge("Terms", "of several the least STOREY, then the least ROOM", "one thief: all places are the same", () ->
            nextEars("house 2 1;span 5", new int[][] {{0, 0, 10}, {1, 0, 20}}, 0, 0, 1));
        t.edge("Terms", "of several the least STOREY, then the least ROOM", "room 1 on storey 0 ahead of room 0 on storey 1", () ->
            nextEars("house 3 1;span 5;span 5", new int[][] {{1, 2, 1}}, 1, 0, 5));
        t.edge("Terms", "of several the least STOREY, then the least ROOM", "the fewest are on a storey above", () ->
            nextEars("house 3 1;span 9", new int[][] {{1, 0, 5}}, 0, 1, 3));
        t.edge("Promise 27", "-2: there are no THIEVES", "each what", () ->
            nextEars("house 1 1", new int[][] {{0, 0, 0}}, -2, -2, -2));
        t.edge("Promise 27", "NEXT EAR what 0: ROOM, 1: STOREY, 2: how many stay at most", "eight ears are there already", () -> {
            int[] same = {0, 0, 15};
            int[][] eight = {same, same, same, same, same, same, same, same};
            // 15 in room 0 and 30 in room 1 sound the same in room 0 alone.
            nextEars("house 2 1", eight, 1, 0, 1);
        });
        for (int what : new int[] {-1, 3, FAR, LOW}) {
            t.edge("Promise 27", "NONE without these, or a HOUSE", "what " + what, () ->
                t.due("nextEar(" + what + ")", t.home(HOME).nextEar(what), -1));
        }
        t.edge("Promise 27", "NONE without these, or a HOUSE", "no house, and not even without thieves", () -> {
            for (int what = 0; what < 3; what++) {
                t.due("nextEar(" + what + ")", new LoudHouse().nextEar(what), -1);
            }
            LoudHouse x = t.home("house 1 1");
            x.ear(0, 0, 0);
            t.due("nextEar(3)", x.nextEar(3), -1);
        });
    }

    // ---- promise 28

    private void fires(LoudHouse x, int... dues) {
        for (int what = 0; what <= 7; what++) {
            t.due("fire(" + what + ")", x.fire(what), what < dues.length ? dues[what] : -2);
        }
    }

    private void fire() {
        t.edge("Terms", "the fewest BEATS till all PEOPLE are on STOREY 0", "0: they are; the order is the first of all", () -> {
            fires(t.home("house 1 1;span 5;person 0 9;person 0 9;person 0 9"), 0, 0, 1, 2);
            fires(t.home("house 1 1;span 1" + ";person 0 30".repeat(7)), 0, 0, 1, 2, 3, 4, 5, 6);
        });
        t.edge("Terms", "the fewest BEATS till all PEOPLE are on STOREY 0", "as many as there are people: seven", () -> {
            LoudHouse x = t.home("house 1 1;span 9" + ";person 0 9".repeat(7));
            x.beat();
            fires(x, 7, 0, 1, 2, 3, 4, 5, 6);
        });
        t.edge("Terms", "PEOPLE hush (and sing nothing from that BEAT on)", "one: the beat in which they hush is the first", () -> {
            LoudHouse x = t.home("house 1 1;span 5;person 0 9");
            x.beat();
            fires(x, 1, 0);
        });
        t.edge("Terms", "PEOPLE hush (and sing nothing from that BEAT on)", "nothing: 1 would be a storey above", () -> {
            LoudHouse x = t.home("house 1 1;span 1;person 0 9;person 0 9");
            x.beat();
            fires(x, 2, 0, 1);
        });
        t.edge("Terms", "one after another, one a BEAT, PEOPLE hush", "none twice", () -> {
            // The next hour is 1, in which 1 is loud, too; in hour 0 only 0 is.
            LoudHouse x = t.home("house 1 2;span 5;person 0 9 9;person 0 1 9;deaf 0;deaf 1");
            x.beat();
            fires(x, 2, 0, 1);
        });
        t.edge("Terms", "of several orders the first (as a row of PEOPLE)", "who need not hush come last, by numbers", () -> {
            LoudHouse x = t.home("house 1 1;span 5;person 0 1;person 0 9;person 0 1;person 0 9;deaf 0;deaf 1;deaf 2;deaf 3");
            x.beat();
            fires(x, 2, 1, 3, 0, 2);
        });
        t.edge("Terms", "by all orders", "the fewest are not by the first order", () -> {
            LoudHouse x = t.home("house 1 1;span 5;person 0 4;person 0 8;deaf 1");
            x.beat();
            // 0 heard 4 + 4; without 1 both are still.
            fires(x, 1, 1, 0);
        });
        t.edge("Terms", "the others as told", "by the hours that go on", () -> {
            // 1 is loud at even hours alone: from beat 1 on it is enough that 0 hushes.
            LoudHouse x = t.home("house 3 2;span 5;person 0 9 9;person 2 9 1");
            x.beat();
            fires(x, 1, 0, 1);
            // 2 is loud in hour 2 alone: in hours 0 and 1 the others hush.
            LoudHouse y = t.home("house 1 3;span 5;person 0 9 9 9;person 0 9 9 9;person 0 1 1 9;deaf 0;deaf 1;deaf 2");
            y.beat();
            y.beat();
            y.beat();
            fires(y, 2, 0, 1, 2);
        });
        t.edge("Promise 28", "1 to 7: who hushes in that place (-2: so many PEOPLE there are not)", "none, one and seven people", () -> {
            fires(t.home("house 1 1;thing 0 0"), 0);
            fires(t.home("house 1 1;person 0 9"), 0, 0);
            fires(t.home("house 1 1" + ";person 0 9".repeat(7)), 0, 0, 1, 2, 3, 4, 5, 6);
        });
        t.edge("Terms", "all PEOPLE are on STOREY 0", "things need not be", () -> {
            LoudHouse x = t.home("house 1 1;span 5;person 0 3;person 0 3;deaf 0;deaf 1;thing 0 1");
            x.beat();
            t.due("the thing is above", x.thing(0, 1), 1);
            fires(x, 0, 0, 1);
            LoudHouse y = t.home("house 1 1;span 4" + ";person 0 1".repeat(7) + ";thing 0 1");
            y.beat();
            t.due("the thing is above", y.thing(0, 1), 1);
            fires(y, 0, 0, 1, 2, 3, 4, 5, 6);
        });
        for (int what : new int[] {-1, 8, FAR, LOW}) {
            t.edge("Promise 28", "NONE without these, or a HOUSE", "what " + what, () ->
                t.due("fire(" + what + ")", t.home(HOME).fire(what), -1));
        }
        t.edge("Promise 28", "NONE without these, or a HOUSE", "no house", () -> {
            for (int what = 0; what <= 7; what++) {
                t.due("fire(" + what + ")", new LoudHouse().fire(what), -1);
            }
        });
        t.edge("Terms", "BEATS that are asked go on, also beyond 9999.", "a fire at 9999", () -> {
            // At even hours both are loud, at odd ones 1 alone; at 9999 both are above.
            LoudHouse x = t.home("house 3 2;span 5;person 0 9 1;person 2 9 9");
            t.goTo(x, 9999);
            t.due("above", x.person(0, 1) + x.person(1, 1), 2);
            fires(x, 1, 1, 0);
        });
    }

    // ---- promise 32

    private void draws(LoudHouse x, int m, int n, int rises, int last) {
        t.due("drawn(" + m + ", " + n + ", 0)", x.drawn(m, n, 0), rises);
        t.due("drawn(" + m + ", " + n + ", 1)", x.drawn(m, n, 1), last);
    }

    /** From x = 0 on the draws are 0, 21468, 9988, 22117, 3498, 16927, 16045; from the most on 15929, 4409, 9862. */
    private void drawn() {
        String one = "house 1 1;span 5;person 0 1";
        t.edge("Terms", "DRAWN m times (1 to 20;", "1, 19 and 20", () -> {
            draws(t.home(one), 1, 60, 20, 1);
            draws(t.home(one), 19, 60, 306, 9);
            draws(t.home(one), 20, 60, 320, 9);
        });
        t.edge("Terms", "n BEATS (1 to 60)", "1, 59 and 60", () -> {
            draws(t.home(one), 20, 1, 10, 10);
            draws(t.home(one), 20, 59, 317, 9);
            draws(t.home(one), 20, 60, 320, 9);
        });
        t.edge("Terms", "x (0 to 2147483647; 0 at first)", "from 0, 1 and 2147483647 on", () -> {
            LoudHouse x = t.home(one);
            draws(x, 20, 60, 320, 9);
            x.seed(1);
            draws(x, 20, 60, 297, 7);
            x.seed(FAR);
            draws(x, 20, 60, 302, 12);
        });
        t.edge("Terms", "becomes x * 1103515245 + 12345, of 2147483648 the rest", "from 2147483647 it goes round", () -> {
            LoudHouse x = t.home(one);
            x.seed(FAR);
            // 15929 and 4409 are odd: nobody. 9862 is even.
            draws(x, 1, 1, 0, 0);
            draws(x, 1, 2, 0, 0);
            draws(x, 1, 3, 1, 1);
        });
        t.edge("Terms", "in each a DRAW mod PEOPLE and 1 more", "that one more: nobody", () -> {
            // Of one: 0, 0 (21468), 0 (9988) sneeze, 1 (22117) is nobody.
            LoudHouse x = t.home(one);
            draws(x, 1, 1, 1, 1);
            draws(x, 1, 3, 1, 1);
            draws(x, 1, 4, 1, 0);
            draws(x, 1, 5, 2, 1);
        });
        t.edge("Terms", "a DRAW is x / 65536.", "0 by 12345, the first x; 9 by 589825 and by 655359; 10 by 655360", () -> {
            // Of seven lots, six people and nobody.
            t.due("0", sneezer(0), 0);
            t.due("589825", sneezer(before(589825)), 9 % 7);
            t.due("655359", sneezer(before(655359)), 9 % 7);
            t.due("655360", sneezer(before(655360)), 10 % 7);
            t.due("2147483647, 32767", sneezer(before(2147483647)), 32767 % 7);
        });
        t.edge("Terms", "in each a DRAW mod PEOPLE and 1 more", "of seven, eight", () -> {
            // 0, 4 and 4 sneeze: 0 lifts all; then 4 lifts them again.
            LoudHouse x = t.home("house 1 1;span 10" + ";person 0 0".repeat(7));
            draws(x, 1, 3, 7, 7);
            draws(x, 20, 60, 1029, 119);
        });
        t.edge("Terms", "in each a DRAW mod PEOPLE and 1 more", "no people: always nobody", () -> {
            draws(t.home("house 1 1;span 5;thing 0 0"), 1, 1, 0, 0);
            draws(t.home("house 1 1"), 20, 60, 0, 0);
        });
        t.edge("Terms", "PEOPLE on the last STOREY at the end, all together", "no things, with seven people", () ->
            // 0 sneezes and comes to storey 1, as do the things.
            draws(t.home("house 1 1;span 30" + ";person 0 0".repeat(7) + ";thing 0 0;thing 0 0;thing 0 0"), 1, 1, 1, 1));
        t.edge("Terms", "DRAWN m times (1 to 20; each from now on, as all is; x goes on) n BEATS (1 to 60)", "by the hours that go on", () -> {
            LoudHouse x = t.home("house 1 3;span 5;person 0 1 9 1");
            x.seed(FAR);
            // Nobody sneezes in the first two beats; the person does in the third.
            draws(x, 1, 1, 0, 0);
            draws(x, 1, 2, 1, 1);
            draws(x, 1, 3, 1, 1);
        });
        t.edge("Terms", "that one sneezes (sings 30;", "30 is enough, or one too few", () -> {
            draws(t.home("house 1 1;span 30;person 0 1"), 1, 1, 1, 1);
            draws(t.home("house 1 1;span 31;person 0 1"), 1, 1, 0, 0);
        });
        t.edge("Terms", "(1 to 20; each from now on, as all is; x goes on)", "twice from now on, by draws that go on", () -> {
            // 0 and 0 sneeze; then, from storey 0 again, 0 and nobody.
            draws(t.home(one), 2, 2, 2, 1);
            draws(t.home(one), 4, 1, 3, 3);
        });
        t.edge("Terms", "(x goes on; behind it x is as it was)", "0, and the most", () -> {
            LoudHouse x = t.home(one);
            draws(x, 20, 60, 320, 9);
            t.due("x", x.count(9), 0);
            x.seed(FAR);
            x.drawn(20, 60, 0);
            t.due("x", x.count(9), FAR);
        });
        t.edge("Terms", "PEOPLE on the last STOREY at the end, all together", "one storey is the last: all, each time", () ->
            draws(t.home("house 1 1" + ";person 0 0".repeat(7)), 20, 60, 0, 140));
        t.edge("Terms", "how often a PERSON came to a higher STOREY", "from where they are now", () -> {
            LoudHouse x = t.home(one);
            x.sing(0, 9);
            // On storey 1 already, it comes no higher by three sneezes.
            draws(x, 1, 3, 0, 1);
            draws(x, 1, 5, 1, 1);
        });
        t.edge("Terms", "BEATS that are asked go on, also beyond 9999.", "drawn at 9999", () -> {
            LoudHouse x = t.home("house 1 2;span 5;person 0 1 9");
            t.goTo(x, 9999);
            // Sneezes at 9999 to 10001, nobody's at 10002, whose hour is quiet; then a sneeze.
            draws(x, 1, 1, 1, 1);
            draws(x, 1, 2, 1, 1);
            draws(x, 1, 4, 1, 0);
            draws(x, 1, 5, 2, 1);
        });
    }

    /** The x whose next one is this: what multiplies is odd, so it has an inverse of 2147483648's rests. */
    private static int before(int x) {
        long inverse = 1;
        for (int k = 0; k < 31; k++) {
            inverse = inverse * (2 - 1103515245L * inverse);
        }
        return (int) ((x - 12345L) * inverse & 2147483647L);
    }

    /** Which of six people sneezes first from an x on; 6 is nobody. */
    private int sneezer(int x) {
        for (int one = 0; one < 6; one++) {
            // All are lifted by their own voice, but for one, who is lifted by a sneeze alone.
            StringBuilder house = new StringBuilder("house 1 1;span 30");
            for (int p = 0; p < 6; p++) {
                house.append(";person 0 ").append(p == one ? 0 : 30);
            }
            LoudHouse y = t.home(house + ";deaf 0;deaf 1;deaf 2;deaf 3;deaf 4;deaf 5");
            y.seed(x);
            if (y.drawn(1, 1, 0) == 6) {
                return one;
            }
        }
        return 6;
    }

    private void drawnWithout() {
        int[][] wrong = {{0, 1, 0}, {21, 1, 0}, {-1, 1, 0}, {1, 0, 0}, {1, 61, 0}, {1, -1, 0}, {1, 1, -1}, {1, 1, 2}, {FAR, 1, 0}, {LOW, 1, 0},
            {1, FAR, 0}, {1, LOW, 0}, {1, 1, FAR}, {1, 1, LOW}};
        for (int[] w : wrong) {
            t.edge("Promise 32", "NONE without these, or a HOUSE", "m " + w[0] + ", n " + w[1] + ", what " + w[2], () -> {
                LoudHouse x = t.home(HOME);
                t.due("drawn", x.drawn(w[0], w[1], w[2]), -1);
                t.due("x", x.count(9), 0);
            });
        }
        t.edge("Promise 32", "NONE without these, or a HOUSE", "no house", () -> {
            t.due("drawn(1, 1, 0)", new LoudHouse().drawn(1, 1, 0), -1);
            t.due("drawn(1, 1, 1)", new LoudHouse().drawn(1, 1, 1), -1);
        });
    }
}
