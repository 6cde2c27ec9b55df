/** What rules come to, at the ends of what their words and signs can say, and promise 16. */
final class RunEdges {
    private final Edges t;

    RunEdges(Edges t) {
        this.t = t;
    }

    void all() {
        words();
        neighbours();
        signs();
        division();
        round();
        tests();
        walks();
        songs();
        order();
        run();
    }

    /** Whether a fact holds for one in a room that has one behind it; they walk there if it does. */
    private void holds(LoudHouse x, int person, String fact, boolean holds) {
        int room = x.person(person, 0);
        int number = x.count(5);
        t.teach(x, "walk 1 if person=" + person + " and[" + fact + "]");
        t.due("run", x.run(number, 1), x.count(6));
        t.due("the room of " + person + " by \"" + fact + "\"", x.person(person, 0), holds ? room + 1 : room);
    }

    private void fact(String fact, boolean holds) {
        holds(t.home("house 2 1;person 0 1"), 0, fact, holds);
    }

    private void words() {
        t.edge("Terms", "WORDS (small letters, as far as these go on) of a PERSON: person", "0 and 6", () -> {
            String seven = "house 2 1" + ";person 0 1".repeat(7);
            holds(t.home(seven), 0, "person=0", true);
            holds(t.home(seven), 6, "person=6", true);
            holds(t.home(seven), 5, "person=6", false);
        });
        t.edge("Terms", "person, room, storey, voice", "room 0 and room 2 of 4", () -> {
            holds(t.home("house 4 1;person 0 1"), 0, "room=0", true);
            holds(t.home("house 4 1;person 2 1"), 0, "room=2", true);
        });
        t.edge("Terms", "person, room, storey, voice", "room 3 of 4", () -> {
            LoudHouse x = t.home("house 4 1;person 3 1");
            t.teach(x, "walk 2-room");
            x.run(0, 1);
            t.due("the room", x.person(0, 0), 2);
        });
        t.edge("Terms", "person, room, storey, voice", "storey 0 and storey 7", () -> {
            LoudHouse x = t.home("house 3 1" + ";span 1".repeat(7) + ";person 0 7");
            holds(x, 0, "storey=0", true);
            holds(x, 0, "storey=7", true);
        });
        t.edge("Terms", "voice (of the HOUR, as told)", "the last hour, and the first again", () -> {
            LoudHouse x = t.home("house 4 3;person 0 0 30 7");
            holds(x, 0, "voice=0 and hour=0", true);
            holds(x, 0, "voice=30 and hour=1", true);
            holds(x, 0, "voice=7 and hour=2", true);
            LoudHouse y = t.home("house 2 3;person 0 0 30 7");
            t.goTo(y, 3);
            holds(y, 0, "voice=0 and hour=0 and beat=3", true);
        });
        t.edge("Terms", "voice (of the HOUR, as told)", "behind a tune, and whatever is sung", () -> {
            LoudHouse x = t.home("house 4 1;span 10;person 0 5");
            x.tune(0, 0, 9);
            holds(x, 0, "voice=9", true);
            t.teach(x, "sing 30");
            x.run(1, 1);
            t.due("storey by 30", x.person(0, 1), 1);
            holds(x, 0, "voice=9", true);
        });
        t.edge("Terms", "heard (now, as told)", "nobody else, and all of seven", () -> {
            holds(t.home("house 2 1;person 0 0"), 0, "heard=0", true);
            holds(t.home("house 2 1" + ";person 0 30".repeat(7)), 0, "heard=120", true);
        });
        t.edge("Terms", "heard (now, as told)", "of a deaf one", () ->
            holds(t.home("house 2 1;person 0 7;person 0 30;deaf 0"), 0, "heard=7", true));
        t.edge("Terms", "heard (now, as told)", "by where all are now: 0 has walked away already", () -> {
            LoudHouse x = t.home("house 3 1;person 0 16;person 0 1");
            t.teach(x, "walk 1 if person=0;walk 1 if person=1 and heard=1+4");
            x.run(0, 1);
            t.due("0 walks", x.person(0, 0), 1);
            t.due("1 walks", x.person(1, 0), 1);
        });
        t.edge("Terms", "heard (now, as told)", "in the sum of a song: behind all walks", () -> {
            // Both hear 2 + 1 ahead of the walks and 2 + 0 behind them.
            LoudHouse x = t.home("house 2 1;span 3;person 0 2;person 0 2");
            t.teach(x, "walk 1 if person=1;sing heard");
            x.run(0, 1);
            t.due("0 sings 2", x.person(0, 1), 0);
        });
        t.edge("Terms", "hour, beat, crowd", "hour: 0 of 1, and 5 of 6", () -> {
            holds(t.home("house 2 1;person 0 1"), 0, "hour=0", true);
            LoudHouse x = t.home("house 2 6;person 0 1 1 1 1 1 1");
            t.goTo(x, 11);
            holds(x, 0, "hour=5", true);
        });
        t.edge("Terms", "hour, beat, crowd", "beat: 0, and 9998", () -> {
            holds(t.home("house 2 1;person 0 1"), 0, "beat=0", true);
            LoudHouse x = t.home("house 2 1;person 0 1");
            t.goTo(x, 9998);
            holds(x, 0, "beat=9998", true);
        });
        t.edge("Terms", "top (the last STOREY)", "one storey, and eight", () -> {
            holds(t.home("house 2 1;person 0 1"), 0, "top=0", true);
            holds(t.home("house 2 1;span 5;person 0 1"), 0, "top=1", true);
            holds(t.home("house 2 1" + ";span 1".repeat(7) + ";person 0 1"), 0, "top=7", true);
        });
    }

    private void neighbours() {
        t.edge("Terms", "crowd (other PEOPLE in that ROOM on that STOREY)", "nobody else, and six others", () -> {
            holds(t.home("house 2 1;person 0 1;person 1 1"), 0, "crowd=0", true);
            holds(t.home("house 2 1" + ";person 0 1".repeat(7)), 0, "crowd=6", true);
        });
        t.edge("Terms", "crowd (other PEOPLE in that ROOM on that STOREY)", "on another storey", () -> {
            LoudHouse x = t.home("house 2 1;span 5;person 0 1;person 0 9;deaf 0");
            x.beat();
            holds(x, 0, "crowd=0", true);
        });
        t.edge("Terms", "near (others on that STOREY in ROOMS beside)", "at the first room, in the midst, at the last", () -> {
            String house = "house 4 1;person 0 1;person 1 1;person 1 1;person 2 1;person 3 1;person 3 1;person 3 1";
            holds(t.home(house), 0, "near=2", true);
            holds(t.home(house), 1, "near=2", true);
            holds(t.home(house), 3, "near=5", true);
            LoudHouse x = t.home(house);
            t.teach(x, "walk 0-1 if person=4 and near=1");
            x.run(0, 1);
            t.due("4 walks", x.person(4, 0), 2);
        });
        t.edge("Terms", "near (others on that STOREY in ROOMS beside)", "two apart, and on another storey", () -> {
            LoudHouse x = t.home("house 3 1;span 5;person 0 1;person 2 1;person 1 30;deaf 0;deaf 1");
            holds(x, 0, "near=1 and heard=1", true);
            LoudHouse y = t.home("house 3 1;span 5;person 0 1;person 2 1;person 1 30;deaf 0;deaf 1");
            y.beat();
            holds(y, 0, "near=0", true);
        });
        t.edge("Terms", "near (others on that STOREY in ROOMS beside)", "one room", () ->
            noWay("house 1 1;person 0 1;person 0 1", "walk 1 if near>0"));
        t.edge("Terms", "things (in that ROOM on that STOREY)", "none, and three", () -> {
            holds(t.home("house 2 1;person 0 1"), 0, "things=0", true);
            holds(t.home("house 2 1;person 0 1;thing 0 1;thing 0 2;thing 0 60"), 0, "things=3", true);
        });
        t.edge("Terms", "things (in that ROOM on that STOREY)", "in another room, and on another storey", () -> {
            holds(t.home("house 2 1;person 0 1;thing 1 1;thing 0 2"), 0, "things=1", true);
            LoudHouse x = t.home("house 2 1;span 5;person 0 9;thing 0 60;thing 0 0");
            x.beat();
            holds(x, 0, "things=1 and storey=1", true);
        });
    }

    /** The first of a house stays where they are by a rule. */
    private void noWay(String house, String rule) {
        LoudHouse x = t.home(house);
        int room = x.person(0, 0);
        t.teach(x, rule);
        t.due("run(0, 1)", x.run(0, 1), 1);
        t.due("the room by \"" + rule + "\"", x.person(0, 0), room);
    }

    private void signs() {
        int[][] dues = {{1, 1, 0, 0, 0}, {0, 1, 1, 1, 0}, {0, 0, 0, 1, 1}};
        String[] signs = {"<", "<=", "=", ">=", ">"};
        for (int s = 0; s < signs.length; s++) {
            String sign = signs[s];
            int[] due = {dues[0][s], dues[1][s], dues[2][s]};
            t.edge("Terms", "SIGN one of < <= = >= >", sign + " of one less, the same, one more", () -> {
                for (int left = 4; left <= 6; left++) {
                    fact(left + sign + "5", due[left - 4] == 1);
                }
            });
        }
        t.edge("Terms", "SUM: TERM { (+ or -) TERM }. TERM: VALUE { (* or / or %) VALUE }.", "from the left, * / % first", () -> {
            fact("9-3-2=4", true);
            fact("9-3+2=8", true);
            fact("2+3*4=14", true);
            fact("20-3*4=8", true);
            fact("2*3+4=10", true);
            fact("24/4/3=2", true);
            fact("24/4*3=18", true);
            fact("7*5%4=3", true);
            fact("7%4*5=15", true);
            fact("1+9/2=5", true);
            fact("1+9%2=2", true);
        });
    }

    /** 10 to the 19th, which goes round to -8446744073709551616. */
    private static final String BELOW = "10000*10000*10000*10000*1000";

    private void division() {
        t.edge("Terms", "/ is towards 0", "above 0", () -> {
            fact("7/2=3", true);
            fact("8/2=4", true);
            fact("1/2=0", true);
            fact("0/2=0", true);
        });
        t.edge("Terms", "/ is towards 0", "below 0", () -> {
            // -844674407370955161 is towards 0, and 10 times that lies 6 above what was divided.
            fact(BELOW + "/10*10-" + BELOW + "=6", true);
            fact(BELOW + "/10<0", true);
        });
        t.edge("Terms", "% its rest", "above 0", () -> {
            fact("7%2=1", true);
            fact("8%2=0", true);
            fact("1%2=1", true);
        });
        t.edge("Terms", "% its rest", "below 0", () -> fact(BELOW + "%10=0-6", true));
        t.edge("Terms", "both 0 by 0", "/", () -> {
            fact("5/0=0", true);
            fact("0/0=0", true);
            fact(BELOW + "/0=0", true);
            fact("5/top=0", true);
        });
        t.edge("Terms", "both 0 by 0", "%", () -> {
            fact("5%0=0", true);
            fact("0%0=0", true);
            fact(BELOW + "%0=0", true);
            fact("5%top=0", true);
        });
    }

    private void round() {
        String least = "65536*65536*65536*32768";
        t.edge("Terms", "all goes round in 64 bits", "by *", () -> {
            fact(least + "<0", true);
            fact("65536*65536*65536*16384>0", true);
            fact("65536*65536*65536*65536=0", true);
            fact(BELOW + "<0", true);
        });
        t.edge("Terms", "all goes round in 64 bits", "by -, below the least", () -> {
            fact(least + "-1>0", true);
            fact("0-" + least + "=" + least, true);
        });
        t.edge("Terms", "all goes round in 64 bits", "by +, above the most", () -> {
            fact(least + "-1+1<0", true);
            fact("65536*65536*65536*16384+65536*65536*65536*16384<0", true);
        });
        t.edge("Terms", "all goes round in 64 bits", "not in 32", () -> {
            fact("65536*65536>0", true);
            fact("65536*32768>0", true);
            fact("65536*65536+1=1", false);
            fact("65536*65536=0", false);
        });
    }

    private void tests() {
        t.edge("Terms", "TEST: PART { or PART }. PART: FACT { and FACT }.", "and ahead of or", () -> {
            fact("1=1 or 1=1 and 1=2", true);
            fact("1=2 and 1=1 or 1=1", true);
            fact("[1=1 or 1=1]and 1=2", false);
            fact("1=2 or 1=2 and 1=1", false);
            fact("1=2 or 1=2 or 1=1", true);
            fact("1=1 and 1=1 and 1=2", false);
        });
        t.edge("Terms", "FACT: not FACT", "one fact alone, and a whole bracket", () -> {
            fact("not 1=2 and 1=2", false);
            fact("not[1=2 and 1=2]", true);
            fact("not 1=1 or 1=1", true);
            fact("not[1=1 or 1=1]", false);
        });
        t.edge("Terms", "[ and not lie within one another 10 deep at most", "nine and eight of not, within a bracket", () -> {
            fact("not ".repeat(9) + "1=2", true);
            fact("not ".repeat(9) + "1=1", false);
            fact("not ".repeat(8) + "1=1", true);
            fact("[".repeat(9) + "1=1" + "]".repeat(9), true);
            fact("[".repeat(9) + "1=2" + "]".repeat(9), false);
        });
        t.edge("Terms", "[ and not lie within one another 10 deep at most", "ten of not", () -> {
            noWay("house 2 1;person 0 1", "walk 1 if " + "not ".repeat(10) + "1=2");
            LoudHouse x = t.home("house 2 1;person 0 1");
            t.teach(x, "walk 1 if " + "not ".repeat(10) + "1=1");
            x.run(0, 1);
            t.due("the room", x.person(0, 0), 1);
        });
        t.edge("Terms", "at most 60 VALUES (of SUMS) and FACTS made of a SIGN, together", "what 60 come to", () -> {
            LoudHouse x = t.home("house 2 1;person 0 1");
            t.teach(x, "walk 60" + "-1".repeat(59));
            t.due("run(0, 1)", x.run(0, 1), 1);
            t.due("the room", x.person(0, 0), 1);
            LoudHouse y = t.home("house 2 1;person 0 1");
            t.teach(y, "walk 1 if " + "1=2 or ".repeat(18) + "1=1");
            y.run(0, 1);
            t.due("the room by the last fact", y.person(0, 0), 1);
        });
    }

    private void walks() {
        t.edge("Terms", "if it is -1 or 1 and there is that ROOM", "-1 and 1", () -> {
            LoudHouse x = t.home("house 3 1;person 1 1");
            t.teach(x, "walk 0-1");
            t.teach(x, "walk 1");
            x.run(0, 1);
            t.due("the room", x.person(0, 0), 0);
            x.run(1, 2);
            t.due("the room", x.person(0, 0), 2);
        });
        t.edge("Terms", "if it is -1 or 1 and there is that ROOM", "no room ahead of the first, or behind the last", () -> {
            noWay("house 3 1;person 0 1", "walk 0-1");
            noWay("house 3 1;person 2 1", "walk 1");
            noWay("house 4 1;person 3 1", "walk 1");
            noWay("house 1 1;person 0 1", "walk 1");
            noWay("house 1 1;person 0 1", "walk 0-1");
        });
        t.edge("Terms", "if it is -1 or 1 and there is that ROOM", "0, 2 and -2", () -> {
            noWay("house 4 1;person 1 1", "walk 0");
            noWay("house 4 1;person 1 1", "walk 2");
            noWay("house 4 1;person 2 1", "walk 0-2");
        });
        t.edge("Terms", "if it is -1 or 1 and there is that ROOM", "1 and -1 in 32 bits alone", () -> {
            noWay("house 4 1;person 1 1", "walk 65536*65536+1");
            noWay("house 4 1;person 1 1", "walk 65536*65536-1");
            noWay("house 4 1;person 1 1", "walk 0-65536*65536+1");
            noWay("house 4 1;person 1 1", "walk 0-65536*65536-1");
        });
        t.edge("Terms", "WALK by the SUM of the first walk CLAUSE without a TEST, or whose TEST holds", "the first that holds", () -> {
            LoudHouse x = t.home("house 3 1;person 1 1");
            t.teach(x, "walk 0-1 if 1=2;walk 1;walk 0-1");
            x.run(0, 1);
            t.due("the room", x.person(0, 0), 2);
            noWay("house 3 1;person 1 1", "walk 5;walk 1");
            noWay("house 3 1;person 1 1", "walk 5 if 1=1;walk 1");
        });
        t.edge("Terms", "WALK by the SUM of the first walk CLAUSE without a TEST, or whose TEST holds", "none holds, none is", () -> {
            noWay("house 3 1;person 1 1", "walk 1 if 1=2;walk 0-1 if 1>1");
            noWay("house 3 1;person 1 1", "sing 1");
        });
        t.edge("Terms", "(1) PEOPLE by numbers WALK", "a later one sees an earlier one gone, not the other way", () -> {
            LoudHouse x = t.home("house 3 1" + ";person 0 1".repeat(7));
            t.teach(x, "walk 1 if crowd>3");
            x.run(0, 1);
            // 0 sees six others, 1 five, 2 four, 3 three.
            int[] rooms = {1, 1, 1, 0, 0, 0, 0};
            for (int p = 0; p < 7; p++) {
                t.due("the room of " + p, x.person(p, 0), rooms[p]);
            }
        });
        t.edge("Terms", "(1) PEOPLE by numbers WALK", "seven people, and no thing", () -> {
            LoudHouse x = t.home("house 3 1;span 30" + ";person 0 1".repeat(7) + ";thing 0 0;thing 0 0;thing 1 0");
            t.teach(x, "walk 1;sing 30");
            x.run(0, 1);
            for (int p = 0; p < 7; p++) {
                t.due("the room of " + p, x.person(p, 0), 1);
            }
            t.due("thing 0", x.thing(0, 0) * 10 + x.thing(0, 1), 0);
            t.due("thing 1", x.thing(1, 0) * 10 + x.thing(1, 1), 0);
            t.due("thing 2", x.thing(2, 0) * 10 + x.thing(2, 1), 11);
        });
        t.edge("Terms", "(1) PEOPLE by numbers WALK", "no people", () -> {
            LoudHouse x = t.home("house 3 1;thing 1 1");
            t.teach(x, "walk 1;sing 30");
            t.due("run(0, 1)", x.run(0, 1), 1);
            t.due("the thing's room", x.thing(0, 0), 1);
        });
    }

    private void songs() {
        t.edge("Terms", "held to 0 to 30", "30, 31 and far more", () -> {
            held("30", 30);
            held("31", 30);
            held("29", 29);
            held("99999", 30);
            held("65536*65536", 30);
            held("65536*65536*65536*32768-1", 30);
        });
        t.edge("Terms", "held to 0 to 30", "0, -1 and far less", () -> {
            held("0", 0);
            held("1", 1);
            held("0-1", 0);
            held("0-99999", 0);
            held("0-65536*65536", 0);
            held("65536*65536*65536*32768", 0);
        });
        t.edge("Terms", "without one their VOICE", "no sing clause, and none that holds", () -> {
            LoudHouse x = t.home("house 1 2;span 5;span 5;person 0 7 12");
            t.teach(x, "walk 0");
            t.teach(x, "sing 30 if 1=2;walk 0");
            x.run(0, 1);
            t.due("storey by 7", x.person(0, 1), 1);
            x.run(1, 1);
            t.due("storey by 12", x.person(0, 1), 2);
            x.run(1, 1);
            t.due("storey by 7", x.person(0, 1), 1);
        });
        t.edge("Terms", "each sings the SUM of the first sing CLAUSE so", "the first that holds", () -> {
            LoudHouse x = t.home("house 1 1;span 5;span 5;person 0 0");
            t.teach(x, "sing 12 if 1=2;sing 7;sing 12");
            x.run(0, 1);
            t.due("storey by 7", x.person(0, 1), 1);
        });
    }

    /** A song's sum, and how loud it is: heard by a thing as heavy as that, and by one lighter by one. */
    private void held(String sum, int loud) {
        LoudHouse x = t.home("house 1 1;span 1;person 0 17;thing 0 " + loud + ";thing 0 " + Math.max(0, loud - 1));
        t.teach(x, "sing " + sum);
        t.due("run(0, 1)", x.run(0, 1), 1);
        t.due("sing " + sum + ", heard above " + loud, x.thing(0, 1), 0);
        t.due("sing " + sum + ", heard above one less", x.thing(1, 1), loud > 0 ? 1 : 0);
        // A second one sings 30: together they are not less loud than that.
        LoudHouse y = t.home("house 1 1;span 1;person 0 17;person 0 30;thing 0 29");
        t.teach(y, "sing " + sum + " if person=0");
        y.run(0, 1);
        t.due("sing " + sum + ", heard with 30", y.thing(0, 1), 1);
    }

    private void order() {
        t.edge("Terms", "(TESTS of (2) are all asked behind (1).", "a later one's walk counts for an earlier one's song", () -> {
            LoudHouse x = t.home("house 2 1;span 20;person 0 1;person 0 1");
            t.teach(x, "walk 1 if person=1;sing 20 if crowd=0");
            x.run(0, 1);
            t.due("0 sings 20", x.person(0, 1), 1);
            t.due("1 sings 20", x.person(1, 1), 1);
        });
        t.edge("Terms", "(TESTS of (2) are all asked behind (1).", "no song counts for another's test", () -> {
            LoudHouse x = t.home("house 1 1;span 20;person 0 1;person 0 1");
            t.teach(x, "sing 30 if person=0;sing 20 if heard>9");
            x.run(0, 1);
            t.due("1 sings 1 and hears 15", x.person(1, 1), 0);
        });
        t.edge("Terms", "then the BEAT is", "all come where they come at once, by the rooms behind (1)", () -> {
            LoudHouse x = t.home("house 2 1;span 8;person 0 0;person 1 16");
            t.teach(x, "walk 1 if person=0");
            x.run(0, 1);
            t.due("0 hears 8", x.person(0, 1), 1);
            t.due("1 hears 16", x.person(1, 1), 1);
            t.due("beat", x.count(6), 1);
        });
    }

    private void run() {
        t.edge("Promise 16", "BY A RULE n BEATS (1 to 100): BEAT", "1 and 100", () -> {
            LoudHouse x = ruled();
            t.due("run(0, 1)", x.run(0, 1), 1);
            t.due("run(0, 100)", x.run(0, 100), 101);
            t.due("beat", x.count(6), 101);
        });
        for (int n : new int[] {0, 101, -1, Edges.FAR, Edges.LOW}) {
            t.edge("Promise 16", "NONE, and nothing happens, without these", "n is " + n, () -> unchanged(ruled(), 0, n));
        }
        for (int rule : new int[] {-1, 1, 5, 6, Edges.FAR, Edges.LOW}) {
            t.edge("Promise 16", "NONE, and nothing happens, without these", "rule " + rule, () -> unchanged(ruled(), rule, 1));
        }
        t.edge("Promise 16", "NONE, and nothing happens, without these (no HOUSE)", "no house", () -> {
            LoudHouse x = new LoudHouse();
            t.teach(x, "sing 1");
            t.due("run(0, 1)", x.run(0, 1), -1);
            t.due("beat", x.count(6), 0);
        });
        t.edge("Promise 16", "or if it would be above 9999", "9999 is not above", () -> {
            LoudHouse x = t.home("house 2 1;span 5;person 0 1");
            t.goTo(x, 9900);
            t.teach(x, "sing 9");
            t.due("run(1, 99)", x.run(1, 99), 9999);
            t.due("storey", x.person(0, 1), 1);
        });
        t.edge("Promise 16", "or if it would be above 9999", "10000, by 1, 2 and 100 beats", () -> {
            LoudHouse x = t.home("house 2 1;span 5;person 0 1");
            t.teach(x, "sing 9");
            t.goTo(x, 9900);
            unchanged(x, 0, 100);
            t.goTo(x, 9998);
            unchanged(x, 0, 2);
            t.goTo(x, 9999);
            unchanged(x, 0, 1);
        });
        t.edge("Promise 16", "or if it would be above 9999", "what was done can still be undone", () -> {
            LoudHouse x = t.home("house 2 1;span 5;person 0 1");
            t.goTo(x, 9990);
            x.beat();
            x.walk(0, 1);
            t.due("run(0, 9)", x.run(0, 9), -1);
            t.due("undo()", x.undo(), 1);
            t.due("undo()", x.undo(), 0);
            t.due("beat", x.count(6), 9990);
        });
        t.edge("Terms", "These can't be UNDONE: nothing that was done ahead of them can, either.", "acts ahead, and behind", () -> {
            LoudHouse x = ruled();
            x.walk(0, 1);
            t.due("acts", x.count(8), 3);
            x.run(0, 1);
            t.due("acts", x.count(8), 0);
            t.due("undo()", x.undo(), -2);
            x.beat();
            t.due("undo()", x.undo(), 0);
            t.due("beat", x.count(6), 1);
            t.due("undo()", x.undo(), -2);
        });
    }

    /** A house with two acts done (no beat), and a rule. */
    private LoudHouse ruled() {
        LoudHouse x = t.home("house 3 2;span 5;person 0 4 6;person 2 1 1");
        t.teach(x, "sing 9;walk 1");
        x.walk(1, -1);
        x.tune(1, 0, 2);
        return x;
    }

    private void unchanged(LoudHouse x, int rule, int n) {
        String before = Edges.look(x);
        t.due("run(" + rule + ", " + n + ")", x.run(rule, n), -1);
        t.same("a run refused", Edges.look(x), before);
    }
}
