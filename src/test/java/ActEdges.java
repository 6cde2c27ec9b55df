/** What bounds hearing, beats, acts, images and what is seen: Terms II, promises 6 to 15, 29 to 31, 33 to 35. */
final class ActEdges {
    private static final String HOME = "house 3 2;span 5;span 10;person 0 4 6;person 0 8 1;person 1 20 20;deaf 1;thing 0 6;"
        + "thing 2 0;asks 0 5;asks 1 7";
    private static final int FAR = Edges.FAR;
    private static final int LOW = Edges.LOW;

    private final Edges t;

    ActEdges(Edges t) {
        this.t = t;
    }

    void all() {
        heard();
        heardByThings();
        beats();
        person();
        thing();
        storey();
        at();
        beat();
        sing();
        tune();
        walk();
        push();
        undo();
        rent();
        highest();
        seed();
        count();
        image();
        back();
    }

    // ---- Terms II

    private void hears(String house, int... dues) {
        LoudHouse x = t.home(house);
        for (int p = 0; p < dues.length; p++) {
            t.due("heard of " + p + " in " + house, x.person(p, 3), dues[p]);
        }
    }

    private void heard() {
        t.edge("Terms", "half of what that one sings (downwards), if in the same ROOM", "0, 1, 2, 3, 29 and 30", () -> {
            hears("house 1 1;person 0 0;person 0 0", 0, 0);
            hears("house 1 1;person 0 0;person 0 1", 0, 1);
            hears("house 1 1;person 0 0;person 0 2", 1, 2);
            hears("house 1 1;person 0 0;person 0 3", 1, 3);
            hears("house 1 1;person 0 0;person 0 29", 14, 29);
            hears("house 1 1;person 0 0;person 0 30", 15, 30);
        });
        t.edge("Terms", "a fourth (downwards), if in a ROOM beside (numbers 1 apart)", "0, 3, 4, 7, 8, 29 and 30", () -> {
            hears("house 2 1;person 0 0;person 1 0", 0, 0);
            hears("house 2 1;person 0 0;person 1 3", 0, 3);
            hears("house 2 1;person 0 0;person 1 4", 1, 4);
            hears("house 2 1;person 0 0;person 1 7", 1, 7);
            hears("house 2 1;person 0 0;person 1 8", 2, 8);
            hears("house 2 1;person 0 0;person 1 29", 7, 29);
            hears("house 2 1;person 0 0;person 1 30", 7, 30);
        });
        t.edge("Terms", "a fourth (downwards), if in a ROOM beside (numbers 1 apart)", "both sides, two and three apart", () -> {
            hears("house 4 1;person 0 16;person 1 0;person 2 8;person 3 0", 16, 4 + 2, 8, 2);
            hears("house 4 1;person 0 30;person 3 30", 30, 30);
            hears("house 3 1;person 0 30;person 2 30", 30, 30);
        });
        t.edge("Terms", "of each other one on the same STOREY half of what that one sings (downwards)", "each is halved alone", () -> {
            hears("house 1 1;person 0 0;person 0 1;person 0 1;person 0 3", 1, 2, 2, 3);
            hears("house 2 1;person 0 0;person 1 3;person 1 3;person 1 5", 1, 1 + 3 + 2, 1 + 3 + 2, 1 + 1 + 5);
        });
        t.edge("Terms", "HEARD of a PERSON who sings so loud: that", "nobody else is there", () -> {
            hears("house 1 1;person 0 0", 0);
            hears("house 1 1;person 0 30", 30);
        });
        t.edge("Terms", "of each other one on the same STOREY", "a storey above, and seven together", () -> {
            LoudHouse x = t.home("house 3 1;span 5;person 0 4;person 2 30");
            x.beat();
            t.due("walk(1, -1)", x.walk(1, -1), 1);
            t.due("the lower one", x.person(0, 3), 4);
            t.due("the upper one", x.person(1, 3), 30);
            x.walk(1, -1);
            t.due("the lower one, below", x.person(0, 3), 4);
            t.due("the upper one, above", x.person(1, 3), 30);
            hears("house 1 1" + ";person 0 30".repeat(7), 120, 120, 120, 120, 120, 120, 120);
            hears("house 2 1" + ";person 0 30".repeat(6) + ";person 1 30", 30 + 5 * 15 + 7, 112, 112, 112, 112, 112, 30 + 6 * 7);
        });
        t.edge("Terms", "of a deaf one only what they sing themselves", "0 and more, beside loud ones, who hear them", () -> {
            hears("house 2 1;person 0 0;person 0 30;person 1 30;deaf 0", 0, 30 + 7, 30 + 7);
            hears("house 2 1;person 0 9;person 0 30;deaf 0", 9, 34);
            hears("house 1 1;person 0 30;person 0 30;deaf 0;deaf 1;deaf 0", 30, 30);
        });
    }

    private void thingHears(String house, int due) {
        t.due("heard of the thing in " + house, t.home(house).thing(0, 3), due);
    }

    private void heardByThings() {
        t.edge("Terms", "less its WEIGHT (0 at least)", "as heavy, lighter and heavier by one", () -> {
            thingHears("house 1 1;person 0 9;thing 0 9", 0);
            thingHears("house 1 1;person 0 9;thing 0 8", 1);
            thingHears("house 1 1;person 0 9;thing 0 10", 0);
            thingHears("house 1 1;person 0 9;thing 0 60", 0);
            thingHears("house 1 1;person 0 30;person 0 30;person 0 1;thing 0 60", 1);
        });
        t.edge("Terms", "less its WEIGHT (0 at least)", "weight 0", () -> {
            thingHears("house 1 1;person 0 9;thing 0 0", 9);
            thingHears("house 1 1;person 0 0;thing 0 0", 0);
            thingHears("house 1 1;thing 0 0", 0);
        });
        t.edge("Terms", "what all in its ROOM on its STOREY sing, together", "seven, deaf ones too, whole and not halved", () -> {
            thingHears("house 1 1" + ";person 0 30".repeat(7) + ";deaf 0;deaf 6;thing 0 60", 150);
            thingHears("house 1 1;person 0 1;person 0 1;person 0 1;thing 0 0", 3);
        });
        t.edge("Terms", "what all in its ROOM on its STOREY sing, together", "rooms beside, and another storey", () -> {
            thingHears("house 3 1;person 0 30;person 1 5;person 2 30;thing 1 0", 5);
            LoudHouse x = t.home("house 1 1;span 5;person 0 9;person 0 4;deaf 1;thing 0 8");
            x.beat();
            t.due("the thing hears 13 - 8", x.thing(0, 1), 1);
            t.due("then 9 - 8", x.thing(0, 3), 1);
        });
        t.edge("Terms", "what all in its ROOM on its STOREY sing, together", "no other thing", () ->
            thingHears("house 1 1;person 0 9;thing 0 3;thing 0 60", 6));
    }

    private void beats() {
        t.edge("Terms", "at once, to the STOREY of what is HEARD of them by where all are ahead of it", "each lifts the other, up and down",
            () -> {
                // Each hears 4 + 2; on one storey they stay, and on two they would not be lifted.
                LoudHouse x = t.home("house 1 1;span 6;person 0 4;person 0 4;thing 0 2");
                for (int k = 0; k < 3; k++) {
                    x.beat();
                    t.due("0", x.person(0, 1), 1);
                    t.due("1", x.person(1, 1), 1);
                    // The thing hears 8 - 2, and goes with them.
                    t.due("the thing", x.thing(0, 1), 1);
                }
            });
        t.edge("Terms", "at once, to the STOREY of what is HEARD of them by where all are ahead of it", "a thing left behind", () -> {
            LoudHouse x = t.home("house 1 1;span 6;person 0 9;thing 0 4");
            x.beat();
            t.due("the thing hears 5", x.thing(0, 1), 0);
            x.beat();
            t.due("the thing hears nobody", x.thing(0, 1), 0);
        });
        t.edge("Terms", "As told each sings their VOICE of the HOUR.", "the hour ahead of the beat, round and round", () -> {
            LoudHouse x = t.home("house 1 3;span 5;span 5;person 0 0 5 10");
            int[] storeys = {0, 1, 2, 0, 1, 2, 0};
            for (int storey : storeys) {
                x.beat();
                t.due("behind beat " + x.count(6), x.person(0, 1), storey);
            }
        });
        t.edge("Terms", "The STOREY of a LOUDNESS: as told in I.", "heard as much as a storey's begin, and one less", () -> {
            LoudHouse x = t.home("house 1 1;span 5;span 10;person 0 5;person 0 4;person 0 15;person 0 14;deaf 0;deaf 1;deaf 2;deaf 3");
            x.beat();
            t.due("5", x.person(0, 1), 1);
            t.due("4", x.person(1, 1), 0);
            t.due("15", x.person(2, 1), 2);
            t.due("14", x.person(3, 1), 1);
        });
        t.edge("Terms", "The last 20 ACTS can be UNDONE, the last first.", "19, 20 and 21", () -> {
            LoudHouse x = t.home(HOME);
            for (int k = 1; k <= 19; k++) {
                x.tune(0, 0, k);
            }
            t.due("19", x.count(8), 19);
            x.tune(0, 0, 20);
            t.due("20", x.count(8), 20);
            x.tune(0, 0, 21);
            t.due("21", x.count(8), 20);
            for (int k = 20; k >= 1; k--) {
                t.due("undo()", x.undo(), k - 1);
                t.due("the voice", x.person(0, 100), k);
            }
            t.due("undo()", x.undo(), -2);
            t.due("the voice", x.person(0, 100), 1);
        });
    }

    // ---- what is seen

    private void person() {
        t.edge("Promise 6", "0: ROOM", "the first and the last", () -> {
            LoudHouse x = t.home("house 4 1;person 0 1;person 3 1");
            t.due("person(0, 0)", x.person(0, 0), 0);
            t.due("person(1, 0)", x.person(1, 0), 3);
        });
        t.edge("Promise 6", "1: STOREY", "the first and the last", () -> {
            LoudHouse x = t.home("house 1 1" + ";span 1".repeat(7) + ";person 0 30;person 0 0;deaf 1");
            x.beat();
            t.due("person(0, 1)", x.person(0, 1), 7);
            t.due("person(1, 1)", x.person(1, 1), 0);
        });
        t.edge("Promise 6", "2: VOICE of the HOUR now", "behind the last hour", () -> {
            LoudHouse x = t.home("house 1 2;person 0 3 5");
            t.due("hour 0", x.person(0, 2), 3);
            x.beat();
            t.due("hour 1", x.person(0, 2), 5);
            x.beat();
            t.due("hour 0", x.person(0, 2), 3);
        });
        t.edge("Promise 6", "3: HEARD now", "behind the last hour", () -> {
            LoudHouse x = t.home("house 1 2;person 0 3 5;person 0 4 9");
            t.due("hour 0", x.person(0, 3), 3 + 2);
            x.beat();
            t.due("hour 1", x.person(0, 3), 5 + 4);
            x.beat();
            t.due("hour 0", x.person(0, 3), 3 + 2);
        });
        t.edge("Promise 6", "4: 1 if deaf, else 0", "both, the first and the seventh", () -> {
            LoudHouse x = t.home("house 1 1" + ";person 0 1".repeat(7) + ";deaf 0;deaf 6;deaf 6");
            t.due("0", x.person(0, 4), 1);
            t.due("1", x.person(1, 4), 0);
            t.due("5", x.person(5, 4), 0);
            t.due("6", x.person(6, 4), 1);
        });
        t.edge("Promise 6", "5: coins they ask", "none told, the first and the seventh", () -> {
            LoudHouse x = t.home("house 1 1" + ";person 0 1".repeat(7) + ";asks 0 98;asks 6 99");
            t.due("0", x.person(0, 5), 98);
            t.due("1", x.person(1, 5), 0);
            t.due("6", x.person(6, 5), 99);
        });
        t.edge("Promise 6", "100 and on: VOICE in that HOUR less 100", "the first hour and the sixth, of the first and the seventh", () -> {
            LoudHouse x = t.home("house 1 6;person 0 1 2 3 4 5 6" + ";person 0 0 0 0 0 0 0".repeat(5) + ";person 0 11 12 13 14 15 16");
            t.due("person(0, 100)", x.person(0, 100), 1);
            t.due("person(0, 105)", x.person(0, 105), 6);
            t.due("person(0, 106)", x.person(0, 106), -1);
            t.due("person(6, 100)", x.person(6, 100), 11);
            t.due("person(6, 105)", x.person(6, 105), 16);
            t.due("person(6, 106)", x.person(6, 106), -1);
        });
        for (int what : new int[] {-1, 6, 99, 102, 106, 200, FAR, LOW, LOW + 100}) {
            t.edge("Promise 6", "NONE without these", "what " + what + ", of two hours", () ->
                t.due("person(0, " + what + ")", t.home(HOME).person(0, what), -1));
        }
        for (int person : new int[] {-1, 3, 6, 7, FAR, LOW}) {
            t.edge("Promise 6", "NONE without these", "person " + person + " of three", () -> {
                LoudHouse x = t.home(HOME);
                for (int what : new int[] {0, 1, 2, 3, 4, 5, 100, 101}) {
                    t.due("person(" + person + ", " + what + ")", x.person(person, what), -1);
                }
            });
        }
        t.edge("Promise 6", "NONE without these", "no people, and no house", () -> {
            t.due("no people", t.home("house 1 1;thing 0 1").person(0, 0), -1);
            LoudHouse x = new LoudHouse();
            t.due("no house", x.person(0, 0), -1);
            t.due("no house", x.person(0, 100), -1);
        });
    }

    private void thing() {
        t.edge("Promise 7", "Of a THING what 0: ROOM, 1: STOREY, 2: WEIGHT, 3: HEARD now", "the first and the third", () -> {
            LoudHouse x = t.home("house 4 2;span 5;span 5;person 0 9 7;person 3 30 1;thing 0 0;thing 1 1;thing 3 20");
            int[][] dues = {{0, 0, 0, 9}, {1, 0, 1, 0}, {3, 0, 20, 10}};
            int[][] then = {{0, 1, 0, 7}, {1, 0, 1, 0}, {3, 2, 20, 0}};
            for (int k = 0; k < 3; k++) {
                for (int what = 0; what < 4; what++) {
                    t.due("thing(" + k + ", " + what + ")", x.thing(k, what), dues[k][what]);
                }
            }
            x.beat();
            for (int k = 0; k < 3; k++) {
                for (int what = 0; what < 4; what++) {
                    t.due("then thing(" + k + ", " + what + ")", x.thing(k, what), then[k][what]);
                }
            }
        });
        for (int what : new int[] {-1, 4, 5, 100, FAR, LOW}) {
            t.edge("Promise 7", "NONE without these", "what " + what, () ->
                t.due("thing(0, " + what + ")", t.home(HOME).thing(0, what), -1));
        }
        for (int thing : new int[] {-1, 2, 3, FAR, LOW}) {
            t.edge("Promise 7", "NONE without these", "thing " + thing + " of two", () -> {
                LoudHouse x = t.home(HOME);
                for (int what = 0; what < 4; what++) {
                    t.due("thing(" + thing + ", " + what + ")", x.thing(thing, what), -1);
                }
            });
        }
        t.edge("Promise 7", "NONE without these", "no things, and no house", () -> {
            t.due("no things", t.home("house 1 1;person 0 1").thing(0, 0), -1);
            t.due("no house", new LoudHouse().thing(0, 0), -1);
        });
    }

    private void storey() {
        t.edge("Promise 8", "The STOREY of a LOUDNESS (0 to 9999)", "0 and 9999", () -> {
            LoudHouse x = t.home(HOME);
            t.due("storey(0)", x.storey(0), 0);
            t.due("storey(9999)", x.storey(9999), 2);
        });
        for (int loudness : new int[] {-1, 10000, FAR, LOW}) {
            t.edge("Promise 8", "NONE without these, or a HOUSE", "loudness " + loudness, () ->
                t.due("storey(" + loudness + ")", t.home(HOME).storey(loudness), -1));
        }
        t.edge("Promise 8", "NONE without these, or a HOUSE", "no house", () -> {
            t.due("storey(0)", new LoudHouse().storey(0), -1);
            t.due("storey(9999)", new LoudHouse().storey(9999), -1);
        });
    }

    private void at() {
        t.edge("Promise 9", "PEOPLE in a ROOM on a STOREY, as bits", "none, one and all of seven", () -> {
            LoudHouse x = t.home("house 4 1;span 5" + ";person 3 9".repeat(7));
            t.due("at(0, 0)", x.at(0, 0), 0);
            t.due("at(3, 0)", x.at(3, 0), 127);
            t.due("at(3, 1)", x.at(3, 1), 0);
            x.beat();
            t.due("then at(3, 0)", x.at(3, 0), 0);
            t.due("then at(3, 1)", x.at(3, 1), 127);
            x.walk(0, -1);
            x.walk(6, -1);
            t.due("at(2, 1)", x.at(2, 1), 1 + 64);
            t.due("at(3, 1)", x.at(3, 1), 126 - 64);
        });
        t.edge("Promise 9", "PEOPLE in a ROOM on a STOREY, as bits", "things are none", () ->
            t.due("at(0, 0)", t.home("house 1 1;thing 0 1").at(0, 0), 0));
        int[][] wrong = {{-1, 0}, {3, 0}, {0, -1}, {0, 3}, {4, 0}, {0, 8}, {FAR, 0}, {LOW, 0}, {0, FAR}, {0, LOW}};
        for (int[] w : wrong) {
            t.edge("Promise 9", "NONE without these", "room " + w[0] + ", storey " + w[1] + " of three each", () ->
                t.due("at(" + w[0] + ", " + w[1] + ")", t.home(HOME).at(w[0], w[1]), -1));
        }
        t.edge("Promise 9", "NONE without these", "no house", () -> t.due("at(0, 0)", new LoudHouse().at(0, 0), -1));
    }

    // ---- acts

    private void beat() {
        t.edge("Promise 10", "A BEAT as told: BEAT", "the first, and one of an empty house", () -> {
            t.due("beat()", t.home(HOME).beat(), 1);
            LoudHouse x = t.home("house 1 1");
            t.due("beat()", x.beat(), 1);
            t.due("acts", x.count(8), 1);
            t.due("undo()", x.undo(), 0);
            t.due("beat", x.count(6), 0);
        });
        t.edge("Promise 10", "NONE, and nothing happens, without a HOUSE", "no house", () -> {
            LoudHouse x = new LoudHouse();
            t.due("beat()", x.beat(), -1);
            t.due("beat", x.count(6), 0);
            t.due("acts", x.count(8), 0);
        });
        t.edge("Promise 10", "or at BEAT 9999", "9998 is not", () -> {
            LoudHouse x = late(9998);
            t.due("beat()", x.beat(), 9999);
            t.due("beat", x.count(6), 9999);
            t.due("acts", x.count(8), 1);
        });
        t.edge("Promise 10", "or at BEAT 9999", "9999 is", () -> {
            LoudHouse x = late(9999);
            // The next beat would be loud.
            t.due("storey", x.person(0, 1), 0);
            String before = Edges.look(x);
            t.due("beat()", x.beat(), -1);
            t.same("a beat refused", Edges.look(x), before);
        });
        t.edge("Terms", "BEAT is 1 more (9999 at most)", "one that was undone can be had again", () -> {
            LoudHouse x = late(9998);
            x.beat();
            t.due("undo()", x.undo(), 0);
            t.due("beat()", x.beat(), 9999);
            t.due("beat()", x.beat(), -1);
        });
    }

    /** A house of one who is quiet at even beats and loud at odd ones, at a beat. */
    private LoudHouse late(int beat) {
        LoudHouse x = t.home("house 2 2;span 5;person 0 1 9;thing 0 0");
        t.goTo(x, beat);
        return x;
    }

    private void sing() {
        t.edge("Promise 11", "A BEAT in which one sings so loud (0 to 30): their STOREY then", "0 and 30", () -> {
            LoudHouse x = t.home("house 1 1;span 1;span 29;person 0 7;person 0 7");
            t.due("sing(0, 30)", x.sing(0, 30), 2);
            t.due("1 hears 22", x.person(1, 1), 1);
            t.due("sing(0, 0)", x.sing(0, 0), 0);
            t.due("1 hears 7", x.person(1, 1), 1);
            t.due("beat", x.count(6), 2);
            t.due("the voice stays", x.person(0, 2), 7);
        });
        t.edge("Promise 11", "A BEAT in which one sings so loud (0 to 30): their STOREY then", "the first and the seventh", () -> {
            LoudHouse x = t.home("house 1 1;span 30" + ";person 0 0".repeat(7));
            t.due("sing(6, 30)", x.sing(6, 30), 1);
            t.due("0", x.person(0, 1), 0);
            t.due("sing(0, 30)", x.sing(0, 30), 1);
            t.due("6 comes down", x.person(6, 1), 0);
        });
        t.edge("Terms", "a BEAT in which one PERSON sings so loud (0 to 30), the others as told", "0, beside a loud one", () ->
            t.due("sing(1, 0)", t.home("house 1 1;span 4;person 0 9;person 0 0").sing(1, 0), 1));
        int[][] wrong = {{0, -1}, {0, 31}, {-1, 5}, {3, 5}, {7, 5}, {0, FAR}, {0, LOW}, {FAR, 5}, {LOW, 5}};
        for (int[] w : wrong) {
            t.edge("Promise 11", "NONE, and nothing happens, without these", "person " + w[0] + " of three, voice " + w[1], () -> {
                LoudHouse x = t.home(HOME);
                String before = Edges.look(x);
                t.due("sing(" + w[0] + ", " + w[1] + ")", x.sing(w[0], w[1]), -1);
                t.same("a song refused", Edges.look(x), before);
            });
        }
        t.edge("Promise 11", "NONE, and nothing happens, without these", "no people, and no house", () -> {
            LoudHouse x = t.home("house 1 1;thing 0 0");
            t.due("sing(0, 0)", x.sing(0, 0), -1);
            t.due("beat", x.count(6), 0);
            t.due("sing(0, 0)", new LoudHouse().sing(0, 0), -1);
        });
        t.edge("Promise 11", "or at BEAT 9999", "9998 is not", () -> {
            LoudHouse x = late(9998);
            t.due("sing(0, 9)", x.sing(0, 9), 1);
            t.due("beat", x.count(6), 9999);
        });
        t.edge("Promise 11", "or at BEAT 9999", "9999 is", () -> {
            LoudHouse x = late(9999);
            String before = Edges.look(x);
            t.due("sing(0, 9)", x.sing(0, 9), -1);
            t.same("a song refused", Edges.look(x), before);
        });
    }

    private void tune() {
        t.edge("Promise 12", "TUNE: what it was", "to 0, to 30, and to what it is", () -> {
            LoudHouse x = t.home("house 1 6;person 0 1 2 3 4 5 6;person 0 7 7 7 7 7 7");
            t.due("tune(0, 0, 0)", x.tune(0, 0, 0), 1);
            t.due("tune(0, 0, 30)", x.tune(0, 0, 30), 0);
            t.due("tune(0, 0, 30)", x.tune(0, 0, 30), 30);
            t.due("tune(0, 5, 9)", x.tune(0, 5, 9), 6);
            t.due("tune(1, 0, 8)", x.tune(1, 0, 8), 7);
            int[] dues = {30, 2, 3, 4, 5, 9};
            for (int hour = 0; hour < 6; hour++) {
                t.due("hour " + hour, x.person(0, 100 + hour), dues[hour]);
                t.due("hour " + hour + " of 1", x.person(1, 100 + hour), hour == 0 ? 8 : 7);
            }
            t.due("acts, that by which nothing changed, too", x.count(8), 5);
            t.due("beat", x.count(6), 0);
        });
        t.edge("Promise 12", "TUNE: what it was", "the last voice of the seventh", () -> {
            LoudHouse x = t.home("house 1 6" + ";person 0 1 1 1 1 1 1".repeat(7));
            t.due("tune(6, 5, 9)", x.tune(6, 5, 9), 1);
            t.due("person(6, 105)", x.person(6, 105), 9);
            t.due("undo()", x.undo(), 0);
            t.due("person(6, 105)", x.person(6, 105), 1);
        });
        int[][] wrong = {{0, 0, -1}, {0, 0, 31}, {0, -1, 5}, {0, 2, 5}, {0, 6, 5}, {-1, 0, 5}, {3, 0, 5}, {7, 0, 5}, {0, 0, FAR},
            {0, 0, LOW}, {0, FAR, 5}, {0, LOW, 5}, {FAR, 0, 5}, {LOW, 0, 5}};
        for (int[] w : wrong) {
            String which = "person " + w[0] + " of three, hour " + w[1] + " of two, voice " + w[2];
            t.edge("Promise 12", "NONE, and nothing happens, without these (VOICE 0 to 30)", which, () -> {
                LoudHouse x = t.home(HOME);
                String before = Edges.look(x);
                t.due("tune", x.tune(w[0], w[1], w[2]), -1);
                t.same("a tune refused", Edges.look(x), before);
            });
        }
        t.edge("Promise 12", "NONE, and nothing happens, without these (VOICE 0 to 30)", "no house", () -> {
            LoudHouse x = new LoudHouse();
            t.due("tune(0, 0, 0)", x.tune(0, 0, 0), -1);
            t.due("acts", x.count(8), 0);
        });
        t.edge("Promise 12", "TUNE: what it was", "at beat 9999, too", () -> {
            LoudHouse x = late(9999);
            t.due("tune(0, 1, 4)", x.tune(0, 1, 4), 9);
        });
    }

    private void walk() {
        t.edge("Promise 13", "WALK (way -1 or 1): ROOM", "from the first to the last, and back", () -> {
            LoudHouse x = t.home("house 4 1;span 5;person 0 9;thing 0 0");
            x.beat();
            for (int room = 1; room <= 3; room++) {
                t.due("walk(0, 1)", x.walk(0, 1), room);
            }
            for (int room = 2; room >= 0; room--) {
                t.due("walk(0, -1)", x.walk(0, -1), room);
            }
            t.due("on their storey", x.person(0, 1), 1);
            t.due("no beat", x.count(6), 1);
            t.due("the thing stays", x.thing(0, 0), 0);
        });
        String words = "NONE, and nothing happens, without these, or that ROOM";
        t.edge("Promise 13", words, "ahead of the first room, and behind the last", () -> {
            refusedWalk(t.home("house 4 1;person 0 1"), 0, -1);
            refusedWalk(t.home("house 4 1;person 3 1"), 0, 1);
            refusedWalk(t.home("house 1 1;person 0 1"), 0, -1);
            refusedWalk(t.home("house 1 1;person 0 1"), 0, 1);
            refusedWalk(t.home("house 3 1;person 2 1"), 0, 1);
        });
        for (int way : new int[] {0, 2, -2, FAR, LOW}) {
            t.edge("Promise 13", words, "way " + way, () -> refusedWalk(t.home("house 4 1;person 1 1;person 2 1"), way > 0 ? 0 : 1, way));
        }
        for (int person : new int[] {-1, 3, 7, FAR, LOW}) {
            t.edge("Promise 13", words, "person " + person + " of three", () -> {
                refusedWalk(t.home(HOME), person, 1);
                refusedWalk(t.home(HOME), person, -1);
            });
        }
        t.edge("Promise 13", words, "no people, and no house", () -> {
            refusedWalk(t.home("house 2 1;thing 0 0"), 0, 1);
            t.due("walk(0, 1)", new LoudHouse().walk(0, 1), -1);
        });
    }

    private void refusedWalk(LoudHouse x, int person, int way) {
        String before = Edges.look(x);
        t.due("walk(" + person + ", " + way + ")", x.walk(person, way), -1);
        t.same("a walk refused", Edges.look(x), before);
    }

    private void push() {
        t.edge("Promise 14", "PUSH (way -1 or 1): ROOM", "to the last room and to the first, by one and by seven", () -> {
            LoudHouse x = t.home("house 2 1" + ";person 0 1".repeat(7) + ";thing 0 60");
            t.due("push(0, 1)", x.push(0, 1), 1);
            t.due("people stay", x.at(0, 0), 127);
            x.walk(6, 1);
            t.due("push(0, -1)", x.push(0, -1), 0);
            t.due("6 stays", x.person(6, 0), 1);
            t.due("acts", x.count(8), 3);
            t.due("no beat", x.count(6), 0);
        });
        t.edge("Promise 14", "PUSH (way -1 or 1): ROOM", "the third thing, on a storey above", () -> {
            LoudHouse x = t.home("house 4 1;span 5;person 3 9;thing 0 0;thing 0 0;thing 3 0");
            x.beat();
            t.due("push(2, -1)", x.push(2, -1), 2);
            t.due("its storey", x.thing(2, 1), 1);
            t.due("the others stay", x.thing(0, 0) + x.thing(1, 0), 0);
        });
        t.edge("Promise 14", "or that ROOM", "ahead of the first, and behind the last", () -> {
            refusedPush(t.home("house 4 1;person 0 1;thing 0 0"), 0, -1);
            refusedPush(t.home("house 4 1;person 3 1;thing 3 0"), 0, 1);
            refusedPush(t.home("house 1 1;person 0 1;thing 0 0"), 0, 1);
            refusedPush(t.home("house 3 1;person 2 1;thing 2 0"), 0, 1);
        });
        t.edge("Promise 14", "or somebody with it", "nobody, in a room beside, where it would go, and above", () -> {
            refusedPush(t.home("house 3 1;thing 1 0"), 0, 1);
            refusedPush(t.home("house 3 1;person 2 1;person 0 1;thing 1 0"), 0, 1);
            LoudHouse x = t.home("house 3 1;span 5;person 1 9;thing 1 60");
            x.beat();
            refusedPush(x, 0, 1);
            LoudHouse y = t.home("house 3 1;span 5;person 1 4;person 1 4;deaf 0;deaf 1;thing 1 3");
            y.beat();
            t.due("the thing is above", y.thing(0, 1), 1);
            refusedPush(y, 0, 1);
        });
        for (int way : new int[] {0, 2, -2, FAR, LOW}) {
            t.edge("Promise 14", "NONE, and nothing happens, without these", "way " + way, () ->
                refusedPush(t.home("house 4 1;person 1 1;person 2 1;thing 1 0;thing 2 0"), way > 0 ? 0 : 1, way));
        }
        for (int thing : new int[] {-1, 2, 3, FAR, LOW}) {
            t.edge("Promise 14", "NONE, and nothing happens, without these", "thing " + thing + " of two", () ->
                refusedPush(t.home("house 3 1" + ";person 1 1".repeat(7) + ";thing 1 0;thing 1 0"), thing, 1));
        }
        t.edge("Promise 14", "NONE, and nothing happens, without these", "no things, and no house", () -> {
            refusedPush(t.home("house 2 1;person 0 1"), 0, 1);
            t.due("push(0, 1)", new LoudHouse().push(0, 1), -1);
        });
    }

    private void refusedPush(LoudHouse x, int thing, int way) {
        String before = Edges.look(x);
        t.due("push(" + thing + ", " + way + ")", x.push(thing, way), -1);
        t.same("a push refused", Edges.look(x), before);
    }

    private void undo() {
        t.edge("Promise 15", "The last ACT is UNDONE: how many more can be", "each kind of act", () -> {
            LoudHouse x = t.home("house 3 2;span 8;person 0 9 1;person 1 3 3;thing 0 0;thing 1 0");
            String[] before = new String[6];
            before[0] = Edges.look(x);
            x.beat();
            before[1] = Edges.look(x);
            x.sing(1, 7);
            before[2] = Edges.look(x);
            x.tune(1, 1, 0);
            before[3] = Edges.look(x);
            x.walk(0, 1);
            before[4] = Edges.look(x);
            t.due("push", x.push(1, 1), 2);
            for (int k = 4; k >= 0; k--) {
                t.due("undo()", x.undo(), k);
                t.same("what was behind act " + k, Edges.look(x), before[k]);
            }
        });
        t.edge("Promise 15", "-2, and nothing happens: none can", "a new house, and one whose acts are all undone", () -> {
            LoudHouse x = t.home(HOME);
            String before = Edges.look(x);
            t.due("undo()", x.undo(), -2);
            t.same("an undo refused", Edges.look(x), before);
            x.beat();
            t.due("undo()", x.undo(), 0);
            t.due("undo()", x.undo(), -2);
            t.due("undo()", x.undo(), -2);
            t.same("undos refused", Edges.look(x), before);
        });
        t.edge("Promise 15", "-2, and nothing happens: none can", "no house", () -> {
            LoudHouse x = new LoudHouse();
            t.due("undo()", x.undo(), -2);
            t.due("acts", x.count(8), 0);
        });
        t.edge("Promise 15", "The last ACT is UNDONE: how many more can be", "20, and then 0", () -> {
            LoudHouse x = t.home("house 2 1;person 0 1");
            for (int k = 0; k < 30; k++) {
                x.walk(0, k % 2 == 0 ? 1 : -1);
            }
            t.due("the first undo()", x.undo(), 19);
            for (int k = 18; k >= 0; k--) {
                t.due("undo()", x.undo(), k);
                t.due("the room", x.person(0, 0), k % 2);
            }
            t.due("undo()", x.undo(), -2);
        });
        t.edge("Promise 15", "The last ACT is UNDONE: how many more can be", "no undo of an undo; acts behind one", () -> {
            LoudHouse x = t.home("house 4 1;person 0 1");
            x.walk(0, 1);
            x.walk(0, 1);
            x.undo();
            x.walk(0, -1);
            t.due("acts", x.count(8), 2);
            t.due("undo()", x.undo(), 1);
            t.due("the room", x.person(0, 0), 1);
            t.due("undo()", x.undo(), 0);
            t.due("the room", x.person(0, 0), 0);
        });
        t.edge("Terms", "The last 20 ACTS can be UNDONE, the last first.", "beats are, by their number, too", () -> {
            LoudHouse x = t.home("house 1 2;span 5;person 0 9 1");
            for (int k = 0; k < 25; k++) {
                x.beat();
            }
            for (int k = 24; k >= 5; k--) {
                x.undo();
                t.due("beat", x.count(6), k);
                t.due("storey", x.person(0, 1), k % 2);
            }
            t.due("undo()", x.undo(), -2);
            t.due("beat", x.count(6), 5);
        });
        t.edge("Terms", "The last 20 ACTS can be UNDONE, the last first.", "no acts: what is refused, ears, x, rules, images", () -> {
            LoudHouse x = t.home(HOME);
            x.walk(0, -1);
            x.tune(0, 0, 31);
            x.sing(0, 31);
            x.push(1, 1);
            x.ear(0, 0, 3);
            x.seed(5);
            t.teach(x, "walk 1");
            x.image(0);
            t.due("acts", x.count(8), 0);
            x.walk(0, 1);
            x.undo();
            t.due("ears", x.count(7), 1);
            t.due("x", x.count(9), 5);
            t.due("rules", x.count(5), 1);
            t.due("back(0)", x.back(0), 0);
        });
    }

    // ---- what else is seen, and images

    private void rent() {
        t.edge("Promise 29", "RENT", "storey 0 begins at 0: things alone pay", () -> {
            LoudHouse x = t.home("house 1 1;span 5" + ";person 0 1".repeat(7) + ";thing 0 60;thing 0 60;thing 0 60");
            t.due("rent(0)", x.rent(0), 15);
            t.due("rent(1)", x.rent(1), 0);
        });
        t.edge("Terms", "PEOPLE on it (now) times the LOUDNESS at which it begins, and for each THING there 5 more",
            "nobody, one, and seven on the last of eight", () -> {
                LoudHouse x = t.home("house 1 1" + ";span 2".repeat(6) + ";span 1" + ";person 0 30".repeat(7) + ";thing 0 0");
                t.due("ahead of the beat", x.rent(7), 0);
                t.due("rent(0) then", x.rent(0), 5);
                x.beat();
                t.due("rent(7)", x.rent(7), 7 * 13 + 5);
                t.due("rent(6)", x.rent(6), 0);
                LoudHouse y = t.home("house 1 1;span 5;span 10;person 0 15;person 0 5;deaf 0;deaf 1;thing 0 10");
                y.beat();
                t.due("rent(0)", y.rent(0), 0);
                t.due("rent(1), one and a thing", y.rent(1), 5 + 5);
                t.due("rent(2), one", y.rent(2), 15);
            });
        t.edge("Terms", "for each THING there 5 more", "three things on three storeys", () -> {
            LoudHouse x = t.home("house 1 1;span 5;span 10;person 0 9;person 0 9;thing 0 60;thing 0 10;thing 0 0");
            x.beat();
            t.due("rent(0)", x.rent(0), 5);
            t.due("rent(1)", x.rent(1), 2 * 5 + 5);
            t.due("rent(2)", x.rent(2), 5);
        });
        for (int storey : new int[] {-1, 3, 8, FAR, LOW}) {
            t.edge("Promise 29", "NONE without that STOREY", "storey " + storey + " of three", () ->
                t.due("rent(" + storey + ")", t.home(HOME).rent(storey), -1));
        }
        t.edge("Promise 29", "NONE without that STOREY", "no house", () -> t.due("rent(0)", new LoudHouse().rent(0), -1));
        t.edge("Promise 29", "NONE without that STOREY", "nobody at all", () -> {
            LoudHouse x = t.home("house 1 1");
            t.due("rent(0)", x.rent(0), 0);
            t.due("rent(1)", x.rent(1), -1);
        });
    }

    private void highest() {
        t.edge("Terms", "the PERSON on the highest STOREY, of several the least", "all, and two of three", () -> {
            LoudHouse x = t.home("house 1 1;span 5;person 0 1;person 0 9;person 0 9;deaf 0;deaf 1;deaf 2");
            t.due("all on storey 0", x.highest(), 0);
            x.beat();
            t.due("1 and 2", x.highest(), 1);
        });
        t.edge("Terms", "the PERSON on the highest STOREY, of several the least", "the last of seven, on the last of eight", () -> {
            LoudHouse x = t.home("house 1 1" + ";span 4".repeat(7) + ";person 0 0".repeat(6) + ";person 0 30");
            x.beat();
            t.due("highest()", x.highest(), 6);
        });
        t.edge("Promise 30", "-2: no PEOPLE", "things alone, and nothing", () -> {
            t.due("highest()", t.home("house 1 1;thing 0 0").highest(), -2);
            t.due("highest()", t.home("house 1 1").highest(), -2);
        });
        t.edge("Promise 30", "NONE without a HOUSE", "no house", () -> t.due("highest()", new LoudHouse().highest(), -1));
    }

    private void seed() {
        t.edge("Promise 31", "x becomes a number: what it was", "0, 1 and 2147483647", () -> {
            LoudHouse x = new LoudHouse();
            t.due("x at first", x.count(9), 0);
            t.due("seed(2147483647)", x.seed(FAR), 0);
            t.due("x", x.count(9), FAR);
            t.due("seed(1)", x.seed(1), FAR);
            t.due("seed(0)", x.seed(0), 1);
            t.due("x", x.count(9), 0);
        });
        for (int x : new int[] {-1, -2147483647, LOW}) {
            t.edge("Promise 31", "NONE, and nothing happens, below 0", "seed(" + x + ")", () -> {
                LoudHouse y = new LoudHouse();
                y.seed(5);
                t.due("seed(" + x + ")", y.seed(x), -1);
                t.due("x", y.count(9), 5);
            });
        }
    }

    private void count() {
        t.edge("Promise 33", "What 0: ROOMS, 1: HOURS, 2: STOREYS, 3: PEOPLE, 4: THINGS", "the fewest", () ->
            counts(t.home("house 1 1"), 1, 1, 1, 0, 0));
        t.edge("Promise 33", "What 0: ROOMS, 1: HOURS, 2: STOREYS, 3: PEOPLE, 4: THINGS", "the most", () ->
            counts(t.home("house 4 6" + ";span 1".repeat(7) + ";person 0 1 1 1 1 1 1".repeat(7) + ";thing 0 0".repeat(3)), 4, 6, 8, 7, 3));
        t.edge("Promise 33", "5: RULES, 6: BEAT, 7: EARS, 8: ACTS that can be UNDONE, 9: x, 10: bytes of the TAPE", "the fewest", () -> {
            LoudHouse x = t.home("house 1 1");
            for (int what = 5; what <= 10; what++) {
                t.due("count(" + what + ")", x.count(what), 0);
            }
        });
        t.edge("Promise 33", "5: RULES, 6: BEAT, 7: EARS, 8: ACTS that can be UNDONE, 9: x, 10: bytes of the TAPE", "the most", () -> {
            LoudHouse x = late(9999);
            for (int k = 1; k < 6; k++) {
                t.teach(x, "sing 1");
            }
            for (int k = 0; k < 8; k++) {
                x.ear(0, 0, 0);
            }
            for (int k = 0; k < 21; k++) {
                x.tune(0, 0, 0);
            }
            x.seed(FAR);
            for (int k = 0; k < 20; k++) {
                x.feed(0, 0, 0, 0, 0);
            }
            int[] dues = {6, 9999, 8, 20, FAR, 400};
            for (int what = 5; what <= 10; what++) {
                t.due("count(" + what + ")", x.count(what), dues[what - 5]);
            }
        });
        for (int what : new int[] {-1, 11, 12, FAR, LOW}) {
            t.edge("Promise 33", "NONE for others", "what " + what, () -> {
                t.due("count(" + what + ")", t.home(HOME).count(what), -1);
                t.due("without a house", new LoudHouse().count(what), -1);
            });
        }
        t.edge("Promise 33", "(2 without a HOUSE, too)", "2 alone", () -> {
            LoudHouse x = new LoudHouse();
            for (int what = 0; what <= 10; what++) {
                t.due("count(" + what + ")", x.count(what), what == 2 ? -1 : 0);
            }
        });
    }

    private void counts(LoudHouse x, int... dues) {
        for (int what = 0; what < dues.length; what++) {
            t.due("count(" + what + ")", x.count(what), dues[what]);
        }
    }

    private void image() {
        t.edge("Terms", "IMAGES 0 to 3", "each of the four is by itself", () -> {
            LoudHouse x = t.home(HOME);
            for (int k = 0; k < 4; k++) {
                t.due("image(" + k + ")", x.image(k), k);
                x.beat();
            }
            for (int k = 3; k >= 0; k--) {
                t.due("back(" + k + ")", x.back(k), k);
                t.due("beat", x.count(6), k);
            }
        });
        t.edge("Promise 34", "An IMAGE is made: the BEAT", "0 and 9999", () -> {
            t.due("image(0)", t.home(HOME).image(0), 0);
            LoudHouse x = late(9999);
            t.due("image(3)", x.image(3), 9999);
            Texts.house(x, "house 1 1");
            t.due("back(3)", x.back(3), 9999);
            t.due("beat()", x.beat(), -1);
        });
        t.edge("Promise 34", "An IMAGE is made: the BEAT", "in place of one there was", () -> {
            LoudHouse x = t.home(HOME);
            x.image(1);
            x.beat();
            t.due("image(1)", x.image(1), 1);
            x.beat();
            t.due("back(1)", x.back(1), 1);
        });
        t.edge("Promise 34", "(0 without a HOUSE: there is none behind back() of it then)", "no house, then one, then none", () -> {
            LoudHouse x = new LoudHouse();
            x.seed(3);
            t.due("image(0)", x.image(0), 0);
            Texts.house(x, HOME);
            x.beat();
            x.ear(0, 0, 1);
            t.due("back(0)", x.back(0), 0);
            LoudHouse y = new LoudHouse();
            y.seed(3);
            t.same("no house", Edges.look(x), Edges.look(y));
            t.due("beat()", x.beat(), -1);
            t.due("undo()", x.undo(), -2);
        });
        for (int k : new int[] {-1, 4, FAR, LOW}) {
            t.edge("Promise 34", "NONE for another k", "k " + k, () -> {
                LoudHouse x = t.home(HOME);
                x.image(0);
                x.beat();
                t.due("image(" + k + ")", x.image(k), -1);
                t.due("back(" + k + ")", x.back(k), -1);
                t.due("beat", x.count(6), 1);
                t.due("back(0)", x.back(0), 0);
            });
        }
    }

    private void back() {
        t.edge("Promise 35", "All is as in an IMAGE: the BEAT", "all but rules and tape", () -> {
            LoudHouse x = lived();
            String before = Edges.look(x);
            t.due("image(0)", x.image(0), 1);
            Texts.house(x, "house 4 1;span 1;person 3 1;thing 3 1;asks 0 9");
            x.beat();
            x.walk(0, -1);
            x.seed(6);
            x.ear(3, 1, 30);
            t.due("back(0)", x.back(0), 1);
            t.same("the image", Edges.look(x), before);
        });
        t.edge("Terms", "all but the RULES and the TAPE, as it is", "these stay", () -> {
            LoudHouse x = lived();
            t.teach(x, "walk 0-1");
            x.image(0);
            t.teach(x, "walk 1");
            x.feed(0, 0, 0, 0, 0);
            x.back(0);
            t.due("rules", x.count(5), 2);
            t.due("tape", x.count(10), 20);
            x.run(1, 1);
            t.due("the room by the rule told later", x.person(1, 0), 1);
        });
        t.edge("Terms", "(what can be UNDONE, too); gone back to, it is as it was (these stay)", "acts of then are undone", () -> {
            LoudHouse x = lived();
            x.image(0);
            x.undo();
            x.undo();
            x.beat();
            x.back(0);
            t.due("acts", x.count(8), 3);
            t.due("undo()", x.undo(), 2);
            t.due("not tuned", x.person(2, 101), 20);
            t.due("undo()", x.undo(), 1);
            t.due("not walked", x.person(0, 0), 0);
            t.due("undo()", x.undo(), 0);
            t.due("beat", x.count(6), 0);
            t.due("undo()", x.undo(), -2);
            t.due("back(0) again", x.back(0), 1);
            t.due("acts", x.count(8), 3);
        });
        t.edge("Terms", "(what can be UNDONE, too); gone back to, it is as it was (these stay)", "20 acts of then, none now", () -> {
            LoudHouse x = t.home("house 2 1;person 0 1");
            for (int k = 1; k <= 20; k++) {
                x.tune(0, 0, k);
            }
            x.image(3);
            for (int k = 0; k < 20; k++) {
                x.walk(0, k % 2 == 0 ? 1 : -1);
            }
            x.back(3);
            t.due("acts", x.count(8), 20);
            for (int k = 19; k >= 0; k--) {
                x.undo();
                t.due("the voice", x.person(0, 2), k == 0 ? 1 : k);
            }
        });
        t.edge("Promise 35", "All is as in an IMAGE: the BEAT", "ears of then", () -> {
            LoudHouse x = t.home("house 1 1");
            for (int k = 0; k < 8; k++) {
                x.ear(0, 0, 7);
            }
            x.image(0);
            x.ear(-1, 0, 0);
            x.ear(0, 0, 9);
            x.back(0);
            t.due("ears", x.count(7), 8);
            t.due("the hum", x.thief(3), 7);
        });
        for (int k = 0; k < 4; k++) {
            int one = k;
            t.edge("Promise 35", "NONE, and nothing happens, if it was never made", "back(" + k + "), another was", () -> {
                LoudHouse x = lived();
                x.image((one + 1) % 4);
                x.image((one + 3) % 4);
                x.beat();
                String before = Edges.look(x);
                t.due("back(" + one + ")", x.back(one), -1);
                t.same("a way back refused", Edges.look(x), before);
            });
        }
        for (int k : new int[] {-1, 4, 32, FAR, LOW}) {
            t.edge("Promise 35", "or without it", "back(" + k + ")", () -> {
                LoudHouse x = lived();
                for (int i = 0; i < 4; i++) {
                    x.image(i);
                }
                x.beat();
                String before = Edges.look(x);
                t.due("back(" + k + ")", x.back(k), -1);
                t.same("a way back refused", Edges.look(x), before);
            });
        }
    }

    /** A house at beat 1 with three acts done, an ear and an x. */
    private LoudHouse lived() {
        LoudHouse x = t.home(HOME);
        x.beat();
        x.walk(0, 1);
        x.tune(2, 1, 9);
        x.ear(0, 0, 3);
        x.seed(77);
        return x;
    }
}
