/** What bounds a new object, the tape, and a house's text: Terms I, promises 1 to 4. */
final class HouseEdges {
    private final Edges t;

    HouseEdges(Edges t) {
        this.t = t;
    }

    void all() {
        object();
        feed();
        end();
        length();
        clauses();
        numbers();
        numbersThatHold();
        storeys();
        people();
        text();
        bytes();
        words();
        fourthKind();
        firstAndLeast();
        house();
    }

    private void object() {
        t.edge("The public face", "public static final int NONE = -1;", "the constant", () ->
            t.due("NONE", LoudHouse.NONE, -1));
        t.edge("What it is", "An object is used for at most 512 calls after it has been made", "the 512th answers", () -> {
            LoudHouse x = t.home("house 1 2;span 5;person 0 9 1");
            // Four calls were made so far: two to feed, end() and house().
            for (int k = 1; k <= 507; k++) {
                t.due("beat " + k, x.beat(), k);
            }
            t.due("the 512th call", x.person(0, 1), 1);
        });
        t.edge("Promise 1", "No HOUSE, no RULES.", "no house", () -> {
            LoudHouse x = new LoudHouse();
            t.due("rooms", x.count(0), 0);
            t.due("hours", x.count(1), 0);
            t.due("storeys", x.count(2), -1);
            t.due("people", x.count(3), 0);
            t.due("things", x.count(4), 0);
            t.due("beat", x.count(6), 0);
            t.due("ears", x.count(7), 0);
            t.due("acts", x.count(8), 0);
            t.due("highest()", x.highest(), -1);
        });
        t.edge("Promise 1", "No HOUSE, no RULES.", "no rules, with a house either", () -> {
            t.due("rules", new LoudHouse().count(5), 0);
            LoudHouse x = t.home("house 1 1;person 0 1");
            t.due("rules", x.count(5), 0);
            t.due("run(0, 1)", x.run(0, 1), -1);
        });
        t.edge("Promise 1", "No HOUSE, no RULES.", "objects have nothing in common", () -> {
            LoudHouse x = t.home("house 1 1;person 0 1");
            t.teach(x, "sing 1");
            x.seed(5);
            x.image(0);
            x.feed(0, 0, 0, 0, 0);
            LoudHouse y = new LoudHouse();
            t.due("storeys", y.count(2), -1);
            t.due("rules", y.count(5), 0);
            t.due("x", y.count(9), 0);
            t.due("tape", y.count(10), 0);
            t.due("back(0)", y.back(0), -1);
        });
    }

    // ---- the tape

    private void feed() {
        t.edge("Promise 2", "Twenty bytes come behind the TAPE", "an empty one, and one cut to 7", () -> {
            LoudHouse x = new LoudHouse();
            t.due("feed", x.feed(0, 0, 0, 0, 0), 20);
            t.due("tape", x.count(10), 20);
            t.due("end(7)", x.end(7), 7);
            t.due("feed", x.feed(0, 0, 0, 0, 0), 27);
            t.due("tape", x.count(10), 27);
        });
        t.edge("Promise 2", "of each number the highest first", "twenty letters", () -> {
            LoudHouse x = new LoudHouse();
            // hous, e 1_, 1;pe, rson, _0 7
            t.due("feed", x.feed(0x686f7573, 0x65203120, 0x313b7065, 0x72736f6e, 0x20302037), 20);
            t.due("house()", x.house(), 1);
            t.due("the last byte's digit", x.person(0, 2), 7);
        });
        t.edge("Promise 2", "of each number the highest first", "a byte above 127 in each place", () -> {
            for (int place = 0; place < 20; place++) {
                int[] n = {0x20202020, 0x20202020, 0x20202020, 0x20202020, 0x20202020};
                n[place / 4] += 0xa0 - 0x20 << 24 - place % 4 * 8;
                LoudHouse x = new LoudHouse();
                x.feed(n[0], n[1], n[2], n[3], n[4]);
                t.due("house() with byte 160 at " + place, x.house(), Edges.fault(place, 0));
            }
        });
        t.edge("Promise 2", "how many it has", "20 by 20, up to 400", () -> {
            LoudHouse x = new LoudHouse();
            for (int k = 1; k <= 20; k++) {
                t.due("feed " + k, x.feed(0, 0, 0, 0, 0), 20 * k);
            }
        });
        for (int has : new int[] {381, 399, 400}) {
            t.edge("Promise 2", "NONE, and none comes, if it would have more than 400", "it has " + has, () -> {
                LoudHouse x = full();
                t.due("end", x.end(has), has);
                t.due("feed", x.feed(0x39393939, 0, 0, 0, 0), -1);
                t.due("it has", x.count(10), has);
                t.due("house() of what it had", x.house(), 1);
            });
        }
        t.edge("Promise 2", "NONE, and none comes, if it would have more than 400", "it has 380: 400 are not more", () -> {
            LoudHouse x = full();
            t.due("end", x.end(380), 380);
            t.due("feed", x.feed(0x20202020, 0x20202020, 0x20202020, 0x20202020, 0x20202020), 400);
            t.due("house()", x.house(), 1);
        });
    }

    /** A tape of 400 bytes: a house, and blanks behind it. */
    private LoudHouse full() {
        LoudHouse x = new LoudHouse();
        t.due("a full tape", Texts.feed(x, "house 1 1;person 0 7" + " ".repeat(380)) ? 1 : 0, 1);
        return x;
    }

    private void end() {
        t.edge("Promise 3", "The TAPE has its first n bytes alone: n", "n is all", () -> {
            LoudHouse x = full();
            t.due("end(400)", x.end(400), 400);
            t.due("tape", x.count(10), 400);
        });
        t.edge("Promise 3", "The TAPE has its first n bytes alone: n", "n is 0", () -> {
            LoudHouse x = full();
            t.due("end(0)", x.end(0), 0);
            t.due("tape", x.count(10), 0);
            t.due("end(0) again", x.end(0), 0);
            t.due("end(0) of a new one", new LoudHouse().end(0), 0);
        });
        t.edge("Promise 3", "The TAPE has its first n bytes alone: n", "the first ones stay, the others are gone", () -> {
            LoudHouse x = full();
            t.due("end(10)", x.end(10), 10);
            x.feed(0x7370616e, 0x20352020, 0x20202020, 0x20202020, 0x20202020);
            t.due("house()", x.house(), 0);
            t.due("storeys by the span behind it", x.count(2), 2);
        });
        t.edge("Promise 3", "NONE, and nothing happens, if it has not so many", "one more than it has", () -> {
            LoudHouse x = new LoudHouse();
            t.due("end(1) of none", x.end(1), -1);
            Texts.feed(x, "house 1 1;person 0 7");
            t.due("end(21)", x.end(21), -1);
            t.due("tape", x.count(10), 20);
            t.due("house()", x.house(), 1);
            LoudHouse y = full();
            t.due("end(401)", y.end(401), -1);
            t.due("end(most)", y.end(Edges.FAR), -1);
            t.due("tape", y.count(10), 400);
        });
        t.edge("Promise 3", "NONE, and nothing happens, if it has not so many", "it had so many before it was cut", () -> {
            LoudHouse x = full();
            x.end(20);
            t.due("end(21)", x.end(21), -1);
            t.due("tape", x.count(10), 20);
        });
        t.edge("Promise 3", "or n is below 0", "-1, and the least number", () -> {
            LoudHouse x = full();
            t.due("end(-1)", x.end(-1), -1);
            t.due("end(least)", x.end(Edges.LOW), -1);
            t.due("tape", x.count(10), 400);
            t.due("house()", x.house(), 1);
        });
    }

    // ---- how much there can be

    private void length() {
        t.edge("Terms", "A HOUSE is a text of at most 400 bytes", "400 bytes, the last of which counts", () -> {
            LoudHouse x = new LoudHouse();
            String text = "house 1 1;" + " ".repeat(379) + "person 0 17";
            t.due("its length", text.length(), 400);
            t.due("house()", Texts.house(x, text), 1);
            t.due("the voice", x.person(0, 2), 17);
        });
        t.edge("Terms", "A HOUSE is a text of at most 400 bytes", "400 bytes with a fault at the last, and at the end", () -> {
            t.badHouse("house 1 1;" + " ".repeat(389) + "^x", 0);
            t.badHouse("house 1 1" + " ".repeat(390) + ";^", 0);
        });
        t.edge("Terms", "A HOUSE is a text of at most 400 bytes", "no byte", () -> t.badHouse("^", 0));
    }

    private void clauses() {
        String forty = "house 1 1;person 0 1" + ";deaf 0".repeat(38);
        t.edge("Terms", "CLAUSE { ; CLAUSE }, 40 at most", "one", () -> t.goodHouse("house 1 1", 0));
        t.edge("Terms", "CLAUSE { ; CLAUSE }, 40 at most", "40", () -> t.goodHouse(forty, 1));
        t.edge("Terms", "CLAUSE { ; CLAUSE }, 40 at most", "the 40th counts", () -> {
            LoudHouse x = t.home("house 1 1;person 0 1" + ";deaf 0".repeat(37) + ";asks 0 9");
            t.due("coins", x.person(0, 5), 9);
        });
        for (String clause : new String[] {"house 1 1", "span 5", "person 0 1", "deaf 0", "thing 0 5", "asks 0 5"}) {
            t.edge("Terms", "4 one CLAUSE too many", "41, the last being " + clause, () ->
                t.badHouse(forty + "; ^" + clause, 4));
        }
        t.edge("Terms", "4 one CLAUSE too many", "42", () -> t.badHouse(forty + ";^deaf 0;deaf 0", 4));
        t.edge("Terms", "CLAUSE { ; CLAUSE }, 40 at most", "nothing behind a ;", () -> {
            t.badHouse("house 1 1;^", 0);
            t.badHouse(forty + ";^", 0);
        });
        t.edge("Terms", "once, the first CLAUSE", "it alone", () -> t.goodHouse("house 4 6", 0));
    }

    /** A number in a text, for which # stands: the least and the most one, those beside, and what is none. */
    private void number(String words, String pattern, int least, int most) {
        String ahead = pattern.substring(0, pattern.indexOf('#'));
        String behind = pattern.substring(pattern.indexOf('#') + 1);
        int people = pattern.split("person", -1).length - 1;
        String here = pattern + ": ";
        t.edge("Terms", words, here + least, () -> t.goodHouse(ahead + least + behind, people));
        if (most > least) {
            t.edge("Terms", words, here + most, () -> t.goodHouse(ahead + most + behind, people));
        }
        t.edge("Terms", words, here + (most + 1), () -> t.badHouse(ahead + "^" + (most + 1) + behind, 1));
        t.edge("Terms", words, here + "99999", () -> t.badHouse(ahead + "^99999" + behind, 1));
        if (least > 0) {
            t.edge("Terms", words, here + (least - 1), () -> t.badHouse(ahead + "^" + (least - 1) + behind, 1));
        }
        t.edge("Terms", words, here + "a minus", () -> t.badHouse(ahead + "^-1" + behind, 0));
        t.edge("Terms", "NUMBER (1 to 5 digits, as far as digits go on)", here + "5 digits", () ->
            t.goodHouse(ahead + ("0000" + least) + behind, people));
        t.edge("Terms", "1 a NUMBER of more digits, or not as told", here + "6 digits", () ->
            t.badHouse(ahead + "^" + ("00000" + least) + behind, 1));
        t.edge("Terms", "0 a byte or WORD that can't stand there", here + "no digit", () ->
            t.badHouse(ahead + "^x" + behind, 0));
        t.edge("Terms", "or the end (behind the last byte)", here + "the end", () -> {
            t.badHouse(ahead + "^", 0);
            t.badHouse(ahead + "  ^", 0);
        });
    }

    private void numbers() {
        number("ROOMS on each STOREY, 1 to 4", "house # 1", 1, 4);
        number("HOURS, 1 to 6", "house 1 #", 1, 6);
        number("span NUMBER (1 to 40", "house 1 1;span #", 1, 40);
        number("person NUMBER ROW (a ROOM", "house 1 1;person # 5", 0, 0);
        number("person NUMBER ROW (a ROOM", "house 3 2;person # 5 5", 0, 2);
        number("person NUMBER ROW (a ROOM", "house 4 1;person # 5", 0, 3);
        number("VOICES of 0 to 30", "house 2 1;person 1 #", 0, 30);
        number("VOICES of 0 to 30", "house 2 6;person 1 1 2 3 4 5 #", 0, 30);
        number("VOICES of 0 to 30", "house 2 6;person 1 # 2 3 4 5 6", 0, 30);
        number("deaf NUMBER (a PERSON that was told)", "house 1 1;person 0 1;person 0 1;deaf #", 0, 1);
        number("deaf NUMBER (a PERSON that was told)", "house 1 1" + ";person 0 1".repeat(7) + ";deaf #", 0, 6);
        number("thing NUMBER NUMBER (a ROOM", "house 3 1;thing # 5", 0, 2);
        number("thing NUMBER NUMBER (a ROOM", "house 4 1;thing # 5", 0, 3);
        number("WEIGHT 0 to 60", "house 3 1;thing 2 #", 0, 60);
        number("asks NUMBER NUMBER (a PERSON that was told", "house 1 1;person 0 1;person 0 1;asks # 5", 0, 1);
        number("coins 0 to 99", "house 1 1;person 0 1;asks 0 #", 0, 99);
    }

    /** What the least and the most numbers make of a house. */
    private void numbersThatHold() {
        t.edge("Terms", "ROOMS on each STOREY, 1 to 4", "1 room is room 0, 4 are 0 to 3", () -> {
            LoudHouse x = t.home("house 1 1;person 0 1");
            t.due("rooms", x.count(0), 1);
            t.due("at(0, 0)", x.at(0, 0), 1);
            t.due("at(1, 0)", x.at(1, 0), -1);
            LoudHouse y = t.home("house 4 1;person 3 1");
            t.due("rooms", y.count(0), 4);
            t.due("at(3, 0)", y.at(3, 0), 1);
            t.due("at(4, 0)", y.at(4, 0), -1);
        });
        t.edge("Terms", "as many NUMBERS as HOURS", "1", () -> {
            LoudHouse x = t.home("house 1 1;person 0 17");
            t.due("hour 0", x.person(0, 100), 17);
            t.due("hour 1", x.person(0, 101), -1);
        });
        t.edge("Terms", "as many NUMBERS as HOURS", "6", () -> {
            LoudHouse x = t.home("house 1 6;person 0 0 30 1 29 2 28;person 0 5 4 3 2 1 0");
            int[] told = {0, 30, 1, 29, 2, 28};
            for (int hour = 0; hour < 6; hour++) {
                t.due("hour " + hour, x.person(0, 100 + hour), told[hour]);
                t.due("hour " + hour + " of 1", x.person(1, 100 + hour), 5 - hour);
            }
        });
        t.edge("Terms", "as many NUMBERS as HOURS", "one too few", () -> {
            t.badHouse("house 1 1;person 0^", 0);
            t.badHouse("house 1 1;person 0^;span 5", 0);
            t.badHouse("house 1 2;person 0 3^", 0);
            t.badHouse("house 1 6;person 0 1 2 3 4 5 ^;person 0 1 2 3 4 5 6", 0);
        });
        t.edge("Terms", "as many NUMBERS as HOURS", "one too many", () -> {
            t.badHouse("house 1 1;person 0 1 ^1", 0);
            t.badHouse("house 1 6;person 0 1 2 3 4 5 6 ^7", 0);
        });
        t.edge("Terms", "(a PERSON that was told)", "nobody was, or will be later", () -> {
            t.badHouse("house 1 1;deaf ^0", 1);
            t.badHouse("house 1 1;deaf ^0;person 0 1", 1);
            t.badHouse("house 1 1;person 0 1;deaf ^1;person 0 1", 1);
            t.badHouse("house 1 1;asks ^0 5", 1);
            t.badHouse("house 1 1;asks ^0 5;person 0 1", 1);
            t.badHouse("house 1 1;person 0 1;asks ^1 5;person 0 1", 1);
        });
        t.edge("Terms", "of one the last told, 0 without", "told thrice, told as 0 at last, and not told", () -> {
            LoudHouse x = t.home("house 1 1;person 0 1;person 0 1;person 0 1;asks 1 99;asks 0 5;asks 0 7;asks 1 0;asks 0 3");
            t.due("the last of three", x.person(0, 5), 3);
            t.due("the last of two", x.person(1, 5), 0);
            t.due("without", x.person(2, 5), 0);
        });
        t.edge("Terms", "asks NUMBER NUMBER (a PERSON that was told, coins 0 to 99", "0 and 99", () -> {
            LoudHouse x = t.home("house 1 1;person 0 1;person 0 1;asks 0 0;asks 1 99");
            t.due("the least", x.person(0, 5), 0);
            t.due("the most", x.person(1, 5), 99);
        });
        t.edge("Terms", "WEIGHT 0 to 60", "0 and 60", () -> {
            LoudHouse x = t.home("house 1 1;thing 0 0;thing 0 60");
            t.due("the least", x.thing(0, 2), 0);
            t.due("the most", x.thing(1, 2), 60);
        });
        t.edge("Terms", "VOICES of 0 to 30", "0 and 30", () -> {
            LoudHouse x = t.home("house 1 2;person 0 0 30");
            t.due("the least", x.person(0, 100), 0);
            t.due("the most", x.person(0, 101), 30);
        });
    }

    /** Loudnesses with the storeys that are due to them. */
    private void storeysOf(String house, int[]... dues) {
        LoudHouse x = t.home(house);
        for (int[] d : dues) {
            t.due("storey(" + d[0] + ")", x.storey(d[0]), d[1]);
        }
    }

    private void storeys() {
        t.edge("Terms", "span NUMBER (1 to 40", "how wide 1 and 40 are", () -> {
            storeysOf("house 1 1;span 1", new int[][] {{0, 0}, {1, 1}});
            storeysOf("house 1 1;span 40", new int[][] {{0, 0}, {39, 0}, {40, 1}});
        });
        t.edge("Terms", "STOREY 0 is from LOUDNESS 0 on, as wide as the first one", "its two ends", () ->
            storeysOf("house 1 1;span 3;span 1;span 5", new int[][] {{0, 0}, {2, 0}, {3, 1}}));
        t.edge("Terms", "STOREY 1 behind it, as wide as the second, and so on", "each one's two ends", () ->
            storeysOf("house 1 1;span 3;span 1;span 5;span 2", new int[][] {{3, 1}, {4, 2}, {8, 2}, {9, 3}, {10, 3}, {11, 4}}));
        t.edge("Terms", "the last STOREY is all above", "from its begin to 9999", () ->
            storeysOf("house 1 1;span 3;span 1;span 5", new int[][] {{8, 2}, {9, 3}, {10, 3}, {50, 3}, {9999, 3}}));
        t.edge("Terms", "the last STOREY is all above", "no span: the only STOREY", () -> {
            storeysOf("house 1 1", new int[][] {{0, 0}, {1, 0}, {9999, 0}});
            t.due("storeys", t.home("house 1 1").count(2), 1);
        });
        t.edge("Terms", "7 at most", "7 of them", () -> {
            storeysOf("house 1 1" + ";span 40".repeat(7), new int[][] {{0, 0}, {39, 0}, {40, 1}, {239, 5}, {240, 6}, {279, 6},
                {280, 7}, {9999, 7}});
            storeysOf("house 1 1" + ";span 1".repeat(7), new int[][] {{0, 0}, {1, 1}, {2, 2}, {3, 3}, {4, 4}, {5, 5}, {6, 6},
                {7, 7}, {8, 7}});
            t.due("storeys", t.home("house 1 1" + ";span 1".repeat(7)).count(2), 8);
        });
        t.edge("Terms", "STOREY 1 behind it, as wide as the second, and so on", "spans told between other clauses", () ->
            storeysOf("house 1 1;span 2;person 0 1;span 3;thing 0 1;span 4", new int[][] {{1, 0}, {2, 1}, {4, 1}, {5, 2}, {8, 2},
                {9, 3}}));
    }

    private void people() {
        t.edge("Terms", "PEOPLE 0 to 6", "none, one, and seven by numbers", () -> {
            t.goodHouse("house 1 1", 0);
            t.goodHouse("house 1 1;person 0 1", 1);
            LoudHouse x = t.home("house 1 1;person 0 10;person 0 11;person 0 12;person 0 13;person 0 14;person 0 15;person 0 16");
            for (int p = 0; p < 7; p++) {
                t.due("the voice of " + p, x.person(p, 2), 10 + p);
            }
        });
        t.edge("Terms", "THINGS 0 to 2, in the order told", "none, and three by numbers", () -> {
            t.due("none", t.home("house 1 1").count(4), 0);
            LoudHouse x = t.home("house 1 1;thing 0 10;thing 0 11;thing 0 12");
            for (int k = 0; k < 3; k++) {
                t.due("the weight of " + k, x.thing(k, 2), 10 + k);
            }
            t.due("things", x.count(4), 3);
        });
        t.edge("Terms", "At first all PEOPLE and THINGS are on STOREY 0; it is BEAT 0.", "loud ones, too", () -> {
            LoudHouse x = t.home("house 2 2;span 1;person 0 30 30;person 1 30 30;thing 0 0;thing 1 0");
            t.due("beat", x.count(6), 0);
            t.due("0", x.person(0, 1), 0);
            t.due("1", x.person(1, 1), 0);
            t.due("thing 0", x.thing(0, 1), 0);
            t.due("thing 1", x.thing(1, 1), 0);
        });
        t.edge("Terms", "HOUR: BEAT mod HOURS.", "1 hour goes round at each beat", () -> {
            LoudHouse x = t.home("house 1 1;person 0 7");
            for (int beat = 0; beat < 3; beat++) {
                t.due("the voice at " + beat, x.person(0, 2), 7);
                x.beat();
            }
        });
        t.edge("Terms", "HOUR: BEAT mod HOURS.", "6 hours go round behind the sixth", () -> {
            LoudHouse x = t.home("house 1 6;person 0 0 1 2 3 4 5");
            for (int beat = 0; beat < 14; beat++) {
                t.due("the voice at " + beat, x.person(0, 2), beat % 6);
                x.beat();
            }
        });
        t.edge("Terms", "HOUR: BEAT mod HOURS.", "at beat 9999", () -> {
            LoudHouse x = t.home("house 1 4;person 0 10 11 12 13");
            t.goTo(x, 9999);
            t.due("9999 mod 4 is 3", x.person(0, 2), 13);
        });
    }

    // ---- faults

    private void text() {
        t.edge("Terms", "Blanks (32) stand between as one likes.", "none", () ->
            t.goodHouse("house1 1;span5;person0 7;deaf0;thing0 5;asks0 5", 1));
        t.edge("Terms", "Blanks (32) stand between as one likes.", "many, ahead and behind, too", () ->
            t.goodHouse("   house   1   1   ;   span   5   ;   person   0   7   ;   deaf   0   ", 1));
        t.edge("Terms", "Blanks (32) stand between as one likes.", "two numbers without one are one number", () -> {
            t.badHouse("house ^11;span 5", 1);
            t.badHouse("house ^11", 1);
            t.badHouse("house 1 1;person 00^", 0);
        });
        t.edge("Terms", "Blanks (32) stand between as one likes.", "blanks alone are no clause", () -> {
            t.badHouse(" ^", 0);
            t.badHouse(" ".repeat(400) + "^", 0);
            t.badHouse("house 1 1; ^;span 5", 0);
        });
        t.edge("Terms", "FAULTS, the first along the text, 1 + 8 * its place", "place 0, and place 400", () -> {
            t.due("empty", Texts.house(new LoudHouse(), ""), -3);
            t.due("x", Texts.house(new LoudHouse(), "x"), -3);
            t.due("400 blanks", Texts.house(new LoudHouse(), " ".repeat(400)), -2 - (1 + 8 * 400));
        });
        t.edge("Terms", "or the end (behind the last byte)", "behind each part of a house", () -> {
            t.badHouse("house^", 0);
            t.badHouse("house 1^", 0);
            t.badHouse("house 1 1;span^", 0);
            t.badHouse("house 1 1;person^", 0);
            t.badHouse("house 1 1;person 0 1;deaf^", 0);
            t.badHouse("house 1 1;thing^", 0);
            t.badHouse("house 1 1;thing 0^", 0);
            t.badHouse("house 1 1;person 0 1;asks^", 0);
            t.badHouse("house 1 1;person 0 1;asks 0^", 0);
        });
        t.edge("Terms", "or the end (behind the last byte)", "not at what was fed behind an end", () -> {
            LoudHouse x = new LoudHouse();
            Texts.feed(x, "house 4 1;person 0 1");
            x.end(7);
            t.due("house 4", x.house(), Edges.fault(7, 0));
        });
    }

    private void bytes() {
        t.edge("Terms", "0 a byte or WORD that can't stand there", "each byte alone", () -> {
            for (int b = 0; b < 256; b++) {
                int due = b == ' ' ? Edges.fault(1, 0) : Edges.fault(0, 0);
                t.due("byte " + b, Texts.house(new LoudHouse(), "" + (char) b), due);
            }
        });
        t.edge("Terms", "0 a byte or WORD that can't stand there", "each byte behind a clause", () -> {
            for (int b = 0; b < 256; b++) {
                int due = b == ' ' ? 0 : b == ';' ? Edges.fault(10, 0) : isDigit(b) ? Edges.fault(8, 1) : Edges.fault(9, 0);
                t.due("byte " + b, Texts.house(new LoudHouse(), "house 1 1" + (char) b), due);
            }
        });
        t.edge("Terms", "0 a byte or WORD that can't stand there", "each byte behind the word house", () -> {
            for (int b = 0; b < 256; b++) {
                int due = b == ' ' || b == '0' ? 0 : isDigit(b) ? Edges.fault(5, 1)
                    : b >= 'a' && b <= 'z' ? Edges.fault(0, 0) : Edges.fault(5, 0);
                t.due("byte " + b, Texts.house(new LoudHouse(), "house" + (char) b + "1 1"), due);
            }
        });
        t.edge("Terms", "0 a byte or WORD that can't stand there", "each byte ahead of a later clause", () -> {
            for (int b = 0; b < 256; b++) {
                int due = b == ' ' ? 0 : Edges.fault(10, 0);
                t.due("byte " + b, Texts.house(new LoudHouse(), "house 1 1;" + (char) b + "span 5"), due);
            }
        });
        t.edge("Terms", "0 a byte or WORD that can't stand there", "each byte between two clauses", () -> {
            for (int b = 0; b < 256; b++) {
                int due = b == ';' ? Edges.fault(17, 0) : b == ' ' || isDigit(b) ? 0 : Edges.fault(16, 0);
                t.due("byte " + b, Texts.house(new LoudHouse(), "house 1 1;span 1" + (char) b + ";span 1"), due);
            }
        });
    }

    private static boolean isDigit(int b) {
        return b >= '0' && b <= '9';
    }

    private void words() {
        for (String word : new String[] {"span", "person", "deaf", "thing", "asks"}) {
            String rest = word.equals("person") || word.equals("thing") || word.equals("asks") ? " 0 1" : word.equals("span") ? " 1" : " 0";
            String ahead = "house 1 1;person 0 1;";
            t.edge("Terms", "WORDS (small letters, as far as these go on)", "one letter less, more, and large: " + word, () -> {
                t.goodHouse(ahead + word + rest, word.equals("person") ? 2 : 1);
                t.badHouse(ahead + "^" + word.substring(0, word.length() - 1) + rest, 0);
                t.badHouse(ahead + "^" + word.substring(1) + rest, 0);
                t.badHouse(ahead + "^" + word + "s" + rest, 0);
                t.badHouse(ahead + "^a" + word + rest, 0);
                t.badHouse(ahead + "^" + word.toUpperCase() + rest, 0);
            });
        }
        t.edge("Terms", "WORDS (small letters, as far as these go on)", "one letter less, more, and large: house", () -> {
            t.badHouse("^hous 1 1", 0);
            t.badHouse("^ouse 1 1", 0);
            t.badHouse("^houses 1 1", 0);
            t.badHouse("^ahouse 1 1", 0);
            t.badHouse("^HOUSE 1 1", 0);
            t.badHouse("^housE 1 1", 0);
            t.badHouse("^h ouse 1 1", 0);
            t.badHouse("^horse 1 1", 0);
        });
        t.edge("Terms", "0 a byte or WORD that can't stand there", "words of rules in a house", () -> {
            t.badHouse("^sing 1", 0);
            t.badHouse("house 1 1;^walk 1", 0);
            t.badHouse("house ^room 1", 0);
            t.badHouse("house 1 1 ^if 1=1", 0);
        });
    }

    private void fourthKind() {
        t.edge("Terms", "a second house", "behind the first, and at the end", () -> {
            t.badHouse("house 1 1; ^house 1 1", 4);
            t.badHouse("house 1 1;span 5;person 0 1;^house 2 2", 4);
        });
        for (String clause : new String[] {"span 5", "person 0 1", "deaf 0", "thing 0 1", "asks 0 1"}) {
            t.edge("Terms", "another CLAUSE ahead of it", clause, () -> {
                t.badHouse("^" + clause + ";house 1 1", 4);
                t.badHouse("  ^" + clause + ";house 1 1", 4);
                t.badHouse("^" + clause, 4);
            });
        }
        t.edge("Terms", "an eighth span", "at its first byte", () -> {
            t.goodHouse("house 1 1" + ";span 1".repeat(7), 0);
            t.badHouse("house 1 1" + ";span 1".repeat(7) + "; ^span 1", 4);
        });
        t.edge("Terms", "an eighth PERSON", "at its first byte", () -> {
            t.goodHouse("house 1 1" + ";person 0 1".repeat(7), 7);
            t.badHouse("house 1 1" + ";person 0 1".repeat(7) + "; ^person 0 1", 4);
        });
        t.edge("Terms", "a fourth THING (at its first byte)", "at its first byte", () -> {
            t.goodHouse("house 1 1" + ";thing 0 1".repeat(3), 0);
            t.badHouse("house 1 1" + ";thing 0 1".repeat(3) + "; ^thing 0 1", 4);
        });
        t.edge("Terms", "7 at most", "as much as there can be of all", () ->
            t.goodHouse("house 4 1" + ";span 1".repeat(7) + ";person 3 1".repeat(7) + ";thing 3 1".repeat(3) + ";deaf 6".repeat(7)
                + ";asks 6 9".repeat(7), 7));
    }

    private void firstAndLeast() {
        t.edge("Terms", "FAULTS, the first along the text", "of two the one ahead", () -> {
            t.badHouse("house ^5 7", 1);
            t.badHouse("house ^x 7", 0);
            t.badHouse("house ^5 1;house 1 1", 1);
            t.badHouse("house 1 1;^house 5 7", 4);
            t.badHouse("house 1 1;deaf ^0;bath", 1);
            t.badHouse("house 1 1" + ";span 1".repeat(7) + ";^span 99", 4);
            t.badHouse("house 1 1" + ";span 1".repeat(6) + ";span ^99;span 1;span 1", 1);
            t.badHouse("^span 99;bath", 4);
        });
        t.edge("Terms", "Of one place the least.", "a word that is none, where a clause is one too many", () -> {
            t.badHouse("house 1 1;person 0 1" + ";deaf 0".repeat(38) + ";^bath 1", 0);
            t.badHouse("house 1 1;person 0 1" + ";deaf 0".repeat(38) + ";^1", 0);
        });
        t.edge("Terms", "Of one place the least.", "a word that is none, ahead of the house", () -> {
            t.badHouse("^bath 1;house 1 1", 0);
            t.badHouse("^1;house 1 1", 0);
        });
        t.edge("Terms", "Of one place the least.", "the end, where a clause is one too many", () ->
            t.badHouse("house 1 1;person 0 1" + ";deaf 0".repeat(38) + "; ^", 0));
    }

    // ---- promise 4

    private static final String LIVED = "house 3 2;span 5;span 10;person 0 4 6;person 0 8 1;person 1 20 20;deaf 1;thing 0 6;"
        + "thing 2 0;asks 0 5;asks 1 7";

    /** A house with beats, acts, ears, x, an image, a rule, and nothing on the tape. */
    private LoudHouse lived() {
        LoudHouse x = t.home(LIVED);
        t.teach(x, "sing 1");
        x.beat();
        x.walk(0, 1);
        x.tune(2, 1, 9);
        x.ear(0, 0, 3);
        x.seed(77);
        x.image(2);
        x.beat();
        return x;
    }

    private void house() {
        t.edge("Promise 4", "The TAPE, which is empty then", "behind a house, and behind a fault", () -> {
            LoudHouse x = new LoudHouse();
            Texts.feed(x, "house 1 1");
            t.due("house()", x.house(), 0);
            t.due("tape", x.count(10), 0);
            Texts.feed(x, "house 1 9");
            t.due("house()", x.house(), Edges.fault(8, 1));
            t.due("tape", x.count(10), 0);
            t.due("house() of no byte", x.house(), -3);
            t.due("a feed then", x.feed(0, 0, 0, 0, 0), 20);
        });
        t.edge("Promise 4", "is the HOUSE in place of the one there was", "nothing of that one is left", () -> {
            LoudHouse x = lived();
            t.due("house()", Texts.house(x, "house 1 1;person 0 1;person 0 1;thing 0 1"), 2);
            LoudHouse y = t.home("house 1 1;person 0 1;person 0 1;thing 0 1");
            y.seed(77);
            t.same("a house told second", Edges.look(x), Edges.look(y));
        });
        t.edge("Promise 4", "is the HOUSE in place of the one there was", "each in its room, on storey 0, at beat 0", () -> {
            LoudHouse x = lived();
            Texts.house(x, LIVED);
            LoudHouse y = t.home(LIVED);
            y.seed(77);
            t.same("the same house told again", Edges.look(x), Edges.look(y));
        });
        t.edge("Promise 4", "no EARS", "one and eight there were", () -> {
            LoudHouse x = lived();
            Texts.house(x, "house 1 1");
            t.due("ears", x.count(7), 0);
            for (int k = 1; k <= 8; k++) {
                t.due("ear " + k, x.ear(0, 0, 1), k);
            }
            Texts.house(x, "house 1 1");
            t.due("ears", x.count(7), 0);
            t.due("thieves", x.thief(0), 30);
        });
        t.edge("Promise 4", "nothing to be UNDONE", "undo() has nothing", () -> {
            LoudHouse x = lived();
            t.due("acts there were", x.count(8), 4);
            Texts.house(x, "house 1 1;person 0 1");
            t.due("acts", x.count(8), 0);
            t.due("undo()", x.undo(), -2);
        });
        t.edge("Promise 4", "x, IMAGES stay", "x", () -> {
            LoudHouse x = lived();
            Texts.house(x, "house 1 1");
            t.due("x", x.count(9), 77);
        });
        t.edge("Promise 4", "x, IMAGES stay", "an image of the house there was", () -> {
            LoudHouse x = lived();
            x.back(2);
            String before = Edges.look(x);
            Texts.house(x, "house 1 1");
            t.due("back(2)", x.back(2), 1);
            t.same("the image", Edges.look(x), before);
            t.due("back(0), never made", x.back(0), -1);
        });
        t.edge("Promise 4", "how many PEOPLE", "0, 1 and 7", () -> {
            t.goodHouse("house 1 1;thing 0 1;thing 0 1", 0);
            t.goodHouse("house 1 1;person 0 1;thing 0 1;thing 0 1", 1);
            t.goodHouse("house 1 1" + ";person 0 1".repeat(7), 7);
        });
        t.edge("Promise 4", "-2 - its FAULT, and all else stays", "the least fault is 1", () ->
            t.due("house()", new LoudHouse().house(), -3));
        t.edge("Promise 4", "-2 - its FAULT, and all else stays", "a house lived in", () -> {
            LoudHouse x = lived();
            String before = Edges.look(x);
            t.due("a fault at the end", Texts.house(x, "house 4 6;span 1;person 3 1 2 3 4 5 6;thing 3 3;deaf 0;asks 0 50;"),
                Edges.fault(65, 0));
            t.same("the house", Edges.look(x), before);
            t.due("rules", x.count(5), 1);
        });
        t.edge("Promise 4", "-2 - its FAULT, and all else stays", "what can be undone, and images", () -> {
            LoudHouse x = lived();
            t.due("a fault", Texts.house(x, "house 1 1;span 1;bath"), Edges.fault(17, 0));
            t.due("undo()", x.undo(), 3);
            t.due("undo()", x.undo(), 2);
            t.due("not tuned", x.person(2, 101), 20);
            t.due("undo()", x.undo(), 1);
            t.due("not walked", x.person(0, 0), 0);
            t.due("undo()", x.undo(), 0);
            t.due("beat", x.count(6), 0);
            t.due("back(2)", x.back(2), 1);
        });
        t.edge("Promise 4", "-2 - its FAULT, and all else stays", "no house there was", () -> {
            LoudHouse x = new LoudHouse();
            t.due("a fault", Texts.house(x, "house 2 2;span 1;bath"), Edges.fault(17, 0));
            t.due("rooms", x.count(0), 0);
            t.due("storeys", x.count(2), -1);
            t.due("beat()", x.beat(), -1);
        });
    }
}
