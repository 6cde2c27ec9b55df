/** What bounds a rule's text, and promise 5. */
final class RuleEdges {
    private final Edges t;

    RuleEdges(Edges t) {
        this.t = t;
    }

    void all() {
        length();
        clauses();
        numbers();
        blanks();
        words();
        signs();
        shapes();
        deep();
        parts();
        bytes();
        ends();
        firstAndLeast();
        rule();
    }

    private void length() {
        t.edge("Terms", "RULES 0 to 5: texts likewise", "400 bytes, the last of which counts", () -> {
            LoudHouse x = t.home("house 4 1;person 2 1");
            String text = "walk" + " ".repeat(391) + "2%3-1";
            t.due("its length", text.length(), 400);
            t.due("rule()", Texts.rule(x, text), 0);
            t.due("run(0, 1)", x.run(0, 1), 1);
            t.due("the room", x.person(0, 0), 3);
        });
        t.edge("Terms", "RULES 0 to 5: texts likewise", "400 bytes with a fault at the last, and at the end", () -> {
            t.badRule("sing 1" + " ".repeat(393) + "^x", 0);
            t.badRule("sing 1" + " ".repeat(393) + "+^", 0);
        });
        t.edge("Terms", "RULES 0 to 5: texts likewise", "no byte, and blanks alone", () -> {
            t.badRule("^", 0);
            t.badRule("   ^", 0);
        });
    }

    private void clauses() {
        t.edge("Terms", "12 CLAUSES at most", "one, and 12", () -> {
            t.goodRule("sing 1");
            t.goodRule("sing 1" + ";walk 1".repeat(11));
            t.goodRule("walk 1" + ";walk 1 if 1=1".repeat(11));
        });
        t.edge("Terms", "12 CLAUSES at most", "the 12th counts", () -> {
            LoudHouse x = t.home("house 2 1;person 0 1");
            t.teach(x, "walk 1 if 1=2" + ";sing 1".repeat(10) + ";walk 1");
            x.run(0, 1);
            t.due("the room", x.person(0, 0), 1);
        });
        t.edge("Terms", "4 one CLAUSE too many", "13 of a rule, and 14", () -> {
            t.badRule("sing 1" + ";walk 1".repeat(11) + "; ^sing 1", 4);
            t.badRule("sing 1" + ";walk 1".repeat(11) + ";^walk 1", 4);
            t.badRule("sing 1" + ";walk 1".repeat(11) + ";^walk 1;walk 1", 4);
        });
        t.edge("Terms", "12 CLAUSES at most", "nothing behind a ;", () -> {
            t.badRule("sing 1;^", 0);
            t.badRule("sing 1; ^;sing 1", 0);
            t.badRule("^;sing 1", 0);
            t.badRule("sing 1" + ";walk 1".repeat(11) + ";^", 0);
        });
    }

    private void numbers() {
        t.edge("Terms", "NUMBER (1 to 5 digits, as far as digits go on)", "a VALUE of 1 digit, and of 5", () -> {
            t.goodRule("sing 0");
            t.goodRule("sing 9");
            t.goodRule("sing 00000");
            t.goodRule("sing 99999");
            t.goodRule("sing 1 if 99999=99999");
        });
        t.edge("Terms", "1 a NUMBER of more digits, or not as told", "a VALUE of 6 digits, and of 390", () -> {
            t.badRule("sing ^100000", 1);
            t.badRule("sing ^000000", 1);
            t.badRule("sing 1+^123456", 1);
            t.badRule("sing 1 if 1=^123456", 1);
            t.badRule("sing ^" + "1".repeat(390), 1);
        });
        t.edge("Terms", "NUMBER (1 to 5 digits, as far as digits go on)", "letters go on behind it", () -> {
            t.goodRule("sing 1if 1=1");
            t.goodRule("sing 1 if 1=1and 1=1or 1=1");
            t.badRule("sing 1^a", 0);
            t.badRule("sing 0^x1", 0);
        });
    }

    private void blanks() {
        t.edge("Terms", "Blanks (32) stand between as one likes.", "a rule with as few as can be", () ->
            t.goodRule("sing1+room*2if not[room<=3or near>things]and not not top=1;walk2-1if[1=1]"));
        t.edge("Terms", "Blanks (32) stand between as one likes.", "a rule with many", () ->
            t.goodRule("  sing   1  +  room  *  2   if   not   [  room   <=   3   or  near  >  things  ]  and  top  =  1  ;  walk  2  "));
        t.edge("Terms", "Blanks (32) stand between as one likes.", "none within a sign, a word or a number", () -> {
            t.badRule("sing 1 if 1< ^=2", 0);
            t.badRule("sing 1 if 1> ^=2", 0);
            t.badRule("sing ^ro om", 0);
            t.badRule("sing 1 ^1", 0);
            t.badRule("^si ng 1", 0);
        });
    }

    private void words() {
        String[] all = {"person", "room", "storey", "voice", "heard", "hour", "beat", "crowd", "near", "things", "top"};
        for (String word : all) {
            t.edge("Terms", "WORDS (small letters, as far as these go on) of a PERSON", word, () -> {
                t.goodRule("sing " + word);
                t.goodRule("walk 1 if " + word + "=1 or 1=" + word);
                t.badRule("sing ^" + word.substring(0, word.length() - 1), 0);
                t.badRule("sing ^" + word.substring(1), 0);
                t.badRule("sing ^" + word + "s", 0);
                t.badRule("sing ^" + word + "if 1=1", 0);
                t.badRule("sing ^" + word.toUpperCase(), 0);
            });
        }
        for (String word : new String[] {"if", "not", "and", "or", "sing", "walk", "house", "thing", "hours"}) {
            t.edge("Terms", "0 a byte or WORD that can't stand there", word + " as a value", () -> {
                t.badRule("sing ^" + word, 0);
                t.badRule("sing 1+^" + word, 0);
                t.badRule("sing 1 if 1=^" + word, 0);
            });
        }
        t.edge("Terms", "sing SUM [ if TEST ] | walk SUM [ if TEST ]", "other words ahead", () -> {
            t.badRule("^song 1", 0);
            t.badRule("^sings 1", 0);
            t.badRule("^sin 1", 0);
            t.badRule("^walks 1", 0);
            t.badRule("^wal 1", 0);
            t.badRule("^Sing 1", 0);
            t.badRule("^if 1=1", 0);
            t.badRule("^house 1 1", 0);
            t.badRule("^1", 0);
            t.badRule("sing 1;^person", 0);
        });
        t.edge("Terms", "sing SUM [ if TEST ] | walk SUM [ if TEST ]", "other words behind", () -> {
            t.badRule("sing 1 ^iff 1=1", 0);
            t.badRule("sing 1 ^i 1=1", 0);
            t.badRule("sing 1 ^and 1=1", 0);
            t.badRule("sing 1 ^room", 0);
            t.badRule("sing 1 if 1=1 ^if 1=1", 0);
            t.badRule("sing 1 if 1=1 ^room", 0);
            t.badRule("sing 1 if 1=1 ^ands 1=1", 0);
            t.badRule("sing 1 if 1=1 ^an 1=1", 0);
            t.badRule("sing 1 if 1=1 ^o 1=1", 0);
            t.badRule("sing 1 if 1=1 ^orr 1=1", 0);
            t.badRule("sing 1 if 1=1 ^not 1=1", 0);
        });
    }

    private void signs() {
        for (String sign : new String[] {"<", "<=", "=", ">=", ">"}) {
            t.edge("Terms", "SIGN one of < <= = >= >", sign, () -> {
                t.goodRule("sing 1 if 1" + sign + "1");
                t.goodRule("sing 1 if 1 " + sign + " 1");
                t.badRule("sing 1 if ^" + sign + "1", 0);
                t.badRule("sing 1 if 1" + sign + "^", 0);
                t.badRule("sing 1 if 1" + sign + "^<1", 0);
                t.badRule("sing 1 if 1" + sign + "1^" + sign + "1", 0);
            });
        }
        t.edge("Terms", "SIGN one of < <= = >= >", "others", () -> {
            t.badRule("sing 1 if 1=^=1", 0);
            t.badRule("sing 1 if 1<=^=1", 0);
            t.badRule("sing 1 if 1=^<1", 0);
            t.badRule("sing 1 if 1=^>1", 0);
            t.badRule("sing 1 if 1<^>1", 0);
            t.badRule("sing 1 if 1^!=1", 0);
            t.badRule("sing 1^=1", 0);
        });
    }

    private void shapes() {
        t.edge("Terms", "SUM: TERM { (+ or -) TERM }", "a sign too few, and too many", () -> {
            t.badRule("sing ^", 0);
            t.badRule("sing ^+1", 0);
            t.badRule("sing ^-1", 0);
            t.badRule("sing 1+^", 0);
            t.badRule("sing 1-^", 0);
            t.badRule("sing 1+^+1", 0);
            t.badRule("sing 1-^-1", 0);
            t.badRule("sing 1+^;sing 1", 0);
            t.badRule("sing 1 ^room", 0);
        });
        t.edge("Terms", "TERM: VALUE { (* or / or %) VALUE }", "a sign too few, and too many", () -> {
            t.badRule("sing ^*1", 0);
            t.badRule("sing 1*^", 0);
            t.badRule("sing 1/^", 0);
            t.badRule("sing 1%^", 0);
            t.badRule("sing 1*^*1", 0);
            t.badRule("sing 1*^-1", 0);
            t.badRule("sing room^(1)", 0);
        });
        t.edge("Terms", "TEST: PART { or PART }. PART: FACT { and FACT }.", "a word too few, and too many", () -> {
            t.badRule("sing 1 if ^", 0);
            t.badRule("sing 1 if ^;sing 1", 0);
            t.badRule("sing 1 if ^or 1=1", 0);
            t.badRule("sing 1 if ^and 1=1", 0);
            t.badRule("sing 1 if 1=1 or ^", 0);
            t.badRule("sing 1 if 1=1 and ^", 0);
            t.badRule("sing 1 if 1=1 or ^or 1=1", 0);
            t.badRule("sing 1 if 1=1 and ^or 1=1", 0);
            t.badRule("sing 1 if 1=1 and ^;sing 1", 0);
            t.badRule("sing 1 if 1=1 ^1=1", 0);
        });
        t.edge("Terms", "FACT: not FACT | [ TEST ] (these brackets are signs) | SUM SIGN SUM", "a part of it missing", () -> {
            t.badRule("sing 1 if not^", 0);
            t.badRule("sing 1 if not ^and 1=1", 0);
            t.badRule("sing 1 if [^", 0);
            t.badRule("sing 1 if [^]", 0);
            t.badRule("sing 1 if [not^]", 0);
            t.badRule("sing 1 if 1^", 0);
            t.badRule("sing 1 if 1 ^and 1=1", 0);
            t.badRule("sing 1 if 1 ^room", 0);
            t.badRule("sing 1 if 1 ^1", 0);
            t.badRule("sing 1 if 1 ^[1=1]", 0);
            t.badRule("sing 1 if [room ^top]", 0);
            t.badRule("sing 1 if [1^]", 0);
            t.badRule("sing 1 if [1=^]", 0);
        });
        t.edge("Terms", "[ TEST ] (these brackets are signs)", "brackets that don't close, and that don't open", () -> {
            t.goodRule("sing 1 if [1=1]");
            t.goodRule("sing 1 if [1=1]and[1=1 or[1=1]]");
            t.badRule("sing 1 if [1=1^", 0);
            t.badRule("sing 1 if [[1=1]^", 0);
            t.badRule("sing 1 if [1=1^;sing 1", 0);
            t.badRule("sing 1 if 1=1^]", 0);
            t.badRule("sing 1 if [1=1]^]", 0);
            t.badRule("sing 1^]", 0);
            t.badRule("sing 1 if 1=1 or ^]", 0);
        });
        t.edge("Terms", "[ TEST ] (these brackets are signs)", "brackets about a sum", () -> {
            t.badRule("sing ^[1]", 0);
            t.badRule("sing 1+^[1]", 0);
            t.badRule("sing 1 if [1^]=1", 0);
            t.badRule("sing 1 if 1=^[1]", 0);
            t.badRule("sing 1 if [1=1]^=1", 0);
            t.badRule("sing 1 if [1=1]^+1=1", 0);
        });
    }

    private void deep() {
        String words = "[ and not lie within one another 10 deep at most";
        t.edge("Terms", words, "10 brackets", () -> t.goodRule("sing 1 if " + "[".repeat(10) + "1=1" + "]".repeat(10)));
        t.edge("Terms", words, "10 of not", () -> t.goodRule("sing 1 if " + "not ".repeat(10) + "1=1"));
        t.edge("Terms", words, "10 of both", () -> {
            t.goodRule("sing 1 if " + "not[".repeat(5) + "1=1" + "]".repeat(5));
            t.goodRule("sing 1 if " + "[not ".repeat(5) + "1=1" + "]".repeat(5));
        });
        t.edge("Terms", "2 too deep (at the sign that opens, or the word not)", "an eleventh bracket", () -> {
            t.badRule("sing 1 if " + "[".repeat(10) + " ^[1=1" + "]".repeat(11), 2);
            t.badRule("sing 1 if " + "not ".repeat(10) + " ^[1=1]", 2);
            t.badRule("sing 1 if " + "not[".repeat(5) + "1=1 or ^[1=1]" + "]".repeat(5), 2);
        });
        t.edge("Terms", "2 too deep (at the sign that opens, or the word not)", "an eleventh not", () -> {
            t.badRule("sing 1 if " + "not ".repeat(10) + " ^not 1=1", 2);
            t.badRule("sing 1 if " + "[".repeat(10) + " ^not 1=1" + "]".repeat(10), 2);
            t.badRule("sing 1 if " + "[not ".repeat(5) + "^not 1=1" + "]".repeat(5), 2);
        });
        t.edge("Terms", words, "one behind another they are not deep", () -> {
            t.goodRule("sing 1 if not 1=1" + " and not 1=1".repeat(13));
            t.goodRule("sing 1 if [1=1]" + "or[1=1]".repeat(13));
            t.goodRule("sing 1 if " + "not ".repeat(10) + "1=1 or " + "not ".repeat(10) + "1=1");
            t.goodRule("sing 1 if " + "[".repeat(10) + "1=1" + "]".repeat(10) + "and" + "[".repeat(10) + "1=1" + "]".repeat(10));
            t.goodRule("sing 1 if not 1=1" + ";sing 1 if not [1=1]".repeat(11));
        });
        t.edge("Terms", words, "what ended is not counted, what is open is", () -> {
            String nine = "sing 1 if " + "[".repeat(9);
            t.goodRule(nine + "not 1=1 and not 1=1 or [1=1] and not 1=1" + "]".repeat(9));
            t.badRule(nine + "not 1=1 and [^[1=1]]" + "]".repeat(9), 2);
            t.badRule(nine + "not ^[1=1]" + "]".repeat(9), 2);
            t.goodRule("sing 1 if not [not 1=1] and " + "not ".repeat(10) + "1=1");
            t.badRule("sing 1 if not [not 1=1] and " + "not ".repeat(10) + "^not 1=1", 2);
        });
        t.edge("Terms", words, "ten that close one after another", () -> {
            String ten = "[".repeat(10) + "1=1" + "]".repeat(10);
            t.goodRule("sing 1 if " + ten + ";sing 1 if " + ten);
            t.badRule("sing 1 if " + "[".repeat(10) + "1=1" + "]".repeat(9) + "^", 0);
            t.badRule("sing 1 if " + ten + "^]", 0);
        });
    }

    private void parts() {
        String words = "at most 60 VALUES (of SUMS) and FACTS made of a SIGN, together";
        String sixty = "sing 1" + "+1".repeat(59);
        t.edge("Terms", words, "60 values", () -> {
            t.goodRule(sixty);
            t.goodRule("sing room" + "*room".repeat(59));
            t.goodRule("sing 1" + "+1".repeat(29) + ";walk 1" + "+1".repeat(29));
        });
        t.edge("Terms", words, "60 of both", () -> {
            // A fact made of a sign is three: two values, and itself.
            t.goodRule("sing 1 if 1=1" + " or 1=1".repeat(18) + ";sing 1;sing 1");
            t.goodRule("sing 1" + "+1".repeat(56) + " if 1=1");
        });
        t.edge("Terms", words, "brackets, not, and, or are none", () ->
            t.goodRule("sing 1" + "+1".repeat(53) + " if not[[not 1=1 and not not[1=1]]]"));
        t.edge("Terms", "3 one VALUE or FACT too many (at its first byte; of a FACT at its SIGN)", "a number", () -> {
            t.badRule(sixty + "+ ^1", 3);
            t.badRule(sixty + "+^99999", 3);
            t.badRule(sixty + ";sing ^1", 3);
            t.badRule("sing 1" + "+1".repeat(40) + ";walk 1" + "+1".repeat(18) + "+^1", 3);
        });
        t.edge("Terms", "3 one VALUE or FACT too many (at its first byte; of a FACT at its SIGN)", "a word", () -> {
            t.badRule(sixty + "+ ^room", 3);
            t.badRule(sixty + "*^top", 3);
        });
        t.edge("Terms", "3 one VALUE or FACT too many (at its first byte; of a FACT at its SIGN)", "a value behind if", () -> {
            t.badRule(sixty + " if ^1=1", 3);
            t.badRule("sing 1" + "+1".repeat(57) + " if 1=^1", 3);
        });
        t.edge("Terms", "3 one VALUE or FACT too many (at its first byte; of a FACT at its SIGN)", "a fact", () -> {
            t.badRule("sing 1" + "+1".repeat(58) + " if 1 ^=1", 3);
            t.badRule("sing 1" + "+1".repeat(58) + " if 1 ^>=1", 3);
            t.badRule("sing 1 if 1=1" + " or 1=1".repeat(18) + ";sing 1 if 1^<2", 3);
        });
    }

    private void bytes() {
        t.edge("Terms", "0 a byte or WORD that can't stand there", "each byte as a value", () -> {
            for (int b = 0; b < 256; b++) {
                int due = b == ' ' ? Edges.fault(6, 0) : isDigit(b) ? 0 : Edges.fault(5, 0);
                t.due("byte " + b, Texts.rule(new LoudHouse(), "sing " + (char) b), due);
            }
        });
        t.edge("Terms", "0 a byte or WORD that can't stand there", "each byte behind a sum", () -> {
            for (int b = 0; b < 256; b++) {
                boolean opens = "+-*/%;".indexOf(b) >= 0;
                int due = b == ' ' || isDigit(b) ? 0 : opens ? Edges.fault(7, 0) : Edges.fault(6, 0);
                t.due("byte " + b, Texts.rule(new LoudHouse(), "sing 1" + (char) b), due);
            }
        });
        t.edge("Terms", "0 a byte or WORD that can't stand there", "each byte where a SIGN is due", () -> {
            for (int b = 0; b < 256; b++) {
                boolean goesOn = " +-*/%<=>".indexOf(b) >= 0 || isDigit(b);
                int due = goesOn ? Edges.fault(12, 0) : Edges.fault(11, 0);
                t.due("byte " + b, Texts.rule(new LoudHouse(), "sing 1 if 1" + (char) b), due);
            }
        });
        t.edge("Terms", "0 a byte or WORD that can't stand there", "each byte where a FACT is due", () -> {
            for (int b = 0; b < 256; b++) {
                boolean goesOn = b == ' ' || b == '[' || isDigit(b);
                int due = goesOn ? Edges.fault(11, 0) : Edges.fault(10, 0);
                t.due("byte " + b, Texts.rule(new LoudHouse(), "sing 1 if " + (char) b), due);
            }
        });
        t.edge("Terms", "0 a byte or WORD that can't stand there", "each byte behind a FACT, and behind one in brackets", () -> {
            for (int b = 0; b < 256; b++) {
                boolean goesOn = "+-*/%;".indexOf(b) >= 0;
                int due = b == ' ' || isDigit(b) ? 0 : goesOn ? Edges.fault(14, 0) : Edges.fault(13, 0);
                t.due("byte " + b, Texts.rule(new LoudHouse(), "sing 1 if 1=1" + (char) b), due);
                int dueBehind = b == ' ' ? 0 : b == ';' ? Edges.fault(16, 0) : Edges.fault(15, 0);
                t.due("byte " + b + " behind ]", Texts.rule(new LoudHouse(), "sing 1 if [1=1]" + (char) b), dueBehind);
            }
        });
    }

    private static boolean isDigit(int b) {
        return b >= '0' && b <= '9';
    }

    private void ends() {
        t.edge("Terms", "or the end (behind the last byte)", "behind each part of a rule", () -> {
            t.badRule("sing^", 0);
            t.badRule("sing  ^", 0);
            t.badRule("sing 1+^", 0);
            t.badRule("sing 1*  ^", 0);
            t.badRule("sing 1 if^", 0);
            t.badRule("sing 1 if not^", 0);
            t.badRule("sing 1 if [^", 0);
            t.badRule("sing 1 if 1^", 0);
            t.badRule("sing 1 if 1  ^", 0);
            t.badRule("sing 1 if 1<^", 0);
            t.badRule("sing 1 if 1<=^", 0);
            t.badRule("sing 1 if [1=1  ^", 0);
            t.badRule("sing 1 if 1=1 and^", 0);
            t.badRule("sing 1 if 1=1 or^", 0);
        });
        t.edge("Terms", "or the end (behind the last byte)", "not at what was fed behind an end of a rule", () -> {
            LoudHouse x = new LoudHouse();
            Texts.feed(x, "sing 1 if 1<=2");
            x.end(12);
            t.due("sing 1 if 1<", x.rule(), Edges.fault(12, 0));
            Texts.feed(x, "sing 12;sing voice");
            x.end(16);
            t.due("sing 12;sing voi", x.rule(), Edges.fault(13, 0));
            Texts.feed(x, "sing 123456");
            x.end(10);
            t.due("sing 12345", x.rule(), 0);
        });
    }

    private void firstAndLeast() {
        String sixty = "sing 1" + "+1".repeat(59);
        t.edge("Terms", "FAULTS, the first along the text", "of two in a rule the one ahead", () -> {
            t.badRule("sing ^100000+;", 1);
            t.badRule("sing ^rooms+100000", 0);
            t.badRule("sing 1 if [^]+100000", 0);
            t.badRule(sixty + "+^1+100000", 3);
            t.badRule("sing 1 if " + "[".repeat(10) + "^[[1=100000", 2);
            t.badRule("sing 1" + ";walk 1".repeat(11) + ";^walk 100000", 4);
            t.badRule("sing 1 if [1=^100000", 1);
        });
        t.edge("Terms", "Of one place the least.", "a number of more digits, where a value is one too many", () ->
            t.badRule(sixty + "+^100000", 1));
        t.edge("Terms", "Of one place the least.", "a word that is none, where a value is one too many", () -> {
            t.badRule(sixty + "+^rooms", 0);
            t.badRule(sixty + "+^", 0);
            t.badRule(sixty + "+^;sing 1", 0);
        });
        t.edge("Terms", "Of one place the least.", "a byte that is none, where a FACT is one too many", () -> {
            t.badRule("sing 1" + "+1".repeat(58) + " if 1^", 0);
            t.badRule("sing 1" + "+1".repeat(58) + " if 1 ^and 1=1", 0);
        });
        t.edge("Terms", "Of one place the least.", "a word that is none, where it would be too deep", () -> {
            t.badRule("sing 1 if " + "[".repeat(10) + "^nota 1=1", 0);
            t.badRule("sing 1 if " + "[".repeat(10) + "^nots=1", 0);
        });
        t.edge("Terms", "Of one place the least.", "a word that is none, where a CLAUSE is one too many", () -> {
            t.badRule("sing 1" + ";walk 1".repeat(11) + ";^bath 1", 0);
            t.badRule("sing 1" + ";walk 1".repeat(11) + ";^house 1 1", 0);
        });
    }

    // ---- promise 5

    private void rule() {
        t.edge("Promise 5", "The TAPE, which is empty then", "behind a rule, and behind a fault", () -> {
            LoudHouse x = new LoudHouse();
            t.due("rule()", Texts.rule(x, "sing 1"), 0);
            t.due("tape", x.count(10), 0);
            t.due("rule() amiss", Texts.rule(x, "sing x"), Edges.fault(5, 0));
            t.due("tape", x.count(10), 0);
            t.due("rule() of no byte", x.rule(), -3);
        });
        t.edge("Promise 5", "is a RULE: its number", "0 to 5, in the order told", () -> {
            LoudHouse x = six();
            for (int k = 0; k < 6; k++) {
                x.run(k, 1);
                t.due("behind rule " + k, x.person(0, 1), k + 1);
            }
        });
        t.edge("Promise 5", "is a RULE: its number", "without a house, and kept by a new one", () -> {
            LoudHouse x = new LoudHouse();
            t.due("rule()", Texts.rule(x, "walk 1"), 0);
            t.due("house()", Texts.house(x, "house 2 1;person 0 1"), 1);
            t.due("run(0, 1)", x.run(0, 1), 1);
            t.due("the room", x.person(0, 0), 1);
        });
        t.edge("Promise 5", "-2 - its FAULT", "its number is still to be had", () -> {
            LoudHouse x = t.home("house 3 1;person 1 1");
            t.due("rule()", Texts.rule(x, "walk 1"), 0);
            t.due("rule() amiss", Texts.rule(x, "walk 0-1 if x"), Edges.fault(12, 0));
            t.due("rules", x.count(5), 1);
            t.due("run(1, 1)", x.run(1, 1), -1);
            t.due("rule()", Texts.rule(x, "walk 0-1"), 1);
            x.run(1, 1);
            t.due("the room by rule 1", x.person(0, 0), 0);
            x.run(0, 1);
            t.due("the room by rule 0", x.person(0, 0), 1);
        });
        t.edge("Promise 5", "-2 - its FAULT", "nothing of what was read is left: clauses, and sums begun", () -> {
            LoudHouse x = t.home("house 3 1;span 9;person 1 1");
            t.due("rule() amiss", Texts.rule(x, "walk 1;sing 9;walk x"), Edges.fault(19, 0));
            t.due("rule()", Texts.rule(x, "walk 0-1"), 0);
            x.run(0, 1);
            t.due("the room", x.person(0, 0), 0);
            t.due("the storey", x.person(0, 1), 0);
            t.due("rule() amiss", Texts.rule(x, "walk 1+2*x"), Edges.fault(9, 0));
            t.due("rule()", Texts.rule(x, "walk 2-1"), 1);
            x.run(1, 1);
            t.due("the room", x.person(0, 0), 1);
        });
        t.edge("Promise 5", "-2 - its FAULT", "nothing of what was read is left: how many, how deep", () -> {
            String sixty = "sing 1" + "+1".repeat(59);
            String twelve = "sing 1" + ";walk 1".repeat(11);
            String brackets = "sing 1 if " + "[".repeat(10) + "1=1" + "]".repeat(10);
            String nots = "sing 1 if " + "not ".repeat(10) + "1=1";
            LoudHouse x = new LoudHouse();
            t.due("61 values", Texts.rule(x, sixty + "+1"), Edges.fault(125, 3));
            t.due("60 values", Texts.rule(x, sixty), 0);
            t.due("13 clauses", Texts.rule(x, twelve + ";walk 1"), Edges.fault(84, 4));
            t.due("12 clauses", Texts.rule(x, twelve), 1);
            t.due("10 deep and open", Texts.rule(x, "sing 1 if " + "[".repeat(10) + "x"), Edges.fault(20, 0));
            t.due("none to close", Texts.rule(x, "sing 1 if 1=1]"), Edges.fault(13, 0));
            t.due("10 deep", Texts.rule(x, brackets), 2);
            t.due("10 of not, and a fault", Texts.rule(x, nots + "x"), Edges.fault(53, 0));
            t.due("10 of not", Texts.rule(x, nots), 3);
        });
        t.edge("Promise 5", "-2 - its FAULT", "nothing of what was read is left: of twenty, each with a fault at the end", () -> {
            LoudHouse x = t.home("house 2 1;person 0 1");
            for (int k = 0; k < 10; k++) {
                t.due("60 values", Texts.rule(x, "sing 1" + "+1".repeat(59) + "+"), Edges.fault(125, 0));
                t.due("10 deep", Texts.rule(x, "sing 1 if " + "[".repeat(10)), Edges.fault(20, 0));
            }
            t.due("rule()", Texts.rule(x, "walk 2*3-5 if [not 1=2 and 1=1]and[1=2 or 2=2]"), 0);
            x.run(0, 1);
            t.due("the room", x.person(0, 0), 1);
        });
        t.edge("Promise 5", "is a RULE: its number", "nothing of the rule told ahead is counted", () -> {
            String sixty = "sing 1" + "+1".repeat(59);
            String brackets = "sing 1 if " + "[".repeat(10) + "1=1" + "]".repeat(10);
            String nots = "sing 1 if " + "not ".repeat(10) + "1=1";
            LoudHouse x = new LoudHouse();
            t.due("60 values", Texts.rule(x, sixty), 0);
            t.due("60 values", Texts.rule(x, sixty), 1);
            t.due("10 deep", Texts.rule(x, brackets), 2);
            t.due("10 deep", Texts.rule(x, brackets), 3);
            t.due("10 of not", Texts.rule(x, nots), 4);
            t.due("10 of not", Texts.rule(x, nots), 5);
        });
        t.edge("Promise 5", "NONE, and nothing happens: there are 6", "a seventh as it should be", () -> {
            LoudHouse x = six();
            Texts.feed(x, "walk 1");
            t.due("rule()", x.rule(), -1);
            t.due("rules", x.count(5), 6);
            t.due("tape", x.count(10), 6);
            t.due("run(6, 1)", x.run(6, 1), -1);
            x.run(5, 1);
            t.due("behind rule 5", x.person(0, 1), 6);
        });
        t.edge("Promise 5", "NONE, and nothing happens: there are 6", "a seventh amiss, and no byte", () -> {
            LoudHouse x = six();
            t.due("rule() of no byte", x.rule(), -1);
            Texts.feed(x, "wal");
            t.due("rule()", x.rule(), -1);
            t.due("tape", x.count(10), 3);
        });
        t.edge("Promise 5", "NONE, and nothing happens: there are 6", "the tape is a house's then", () -> {
            LoudHouse x = six();
            Texts.feed(x, "house 1 1");
            t.due("rule()", x.rule(), -1);
            t.due("house()", x.house(), 0);
        });
    }

    /** A house with a rule by which one comes to storey 1, one for storey 2, and so on. */
    private LoudHouse six() {
        LoudHouse x = t.home("house 2 1" + ";span 1".repeat(7) + ";person 0 0");
        for (int k = 0; k < 6; k++) {
            t.due("rule()", Texts.rule(x, "sing " + (k + 1)), k);
        }
        return x;
    }
}
