/** The edges of a law's text (section 1): its clauses, digits, numbers, tests, brackets, and where a FAULT stands. */
public final class LawTextEdgesTest {
    private static final Check CHECK = new Check();

    public static void main(String[] args) {
        clausesTenAtMost();
        semicolonBetween();
        endsTooEarly();
        eachByteOfAWord();
        oneBlankAheadOfEachPart();
        digitsOfStuffs();
        digitOfASay();
        numbersOfThreeDigits();
        noZeroAhead();
        numbersAreRead();
        lettersOfTests();
        signsOfTests();
        eitherAndBoth();
        fiveOpenAtMost();
        openTillItEnds();
        bracketsEnd();
        bytesBeyondText();
        fromLastAndWithout();
        slipLastMoreAndWithout();
        emptyThen();
        faultLeavesNothing();
        CHECK.end();
    }

    private static void due(String call, long got, long want) {
        CHECK.due(call, got, want);
    }

    private static void isLaw(String text) {
        SameWater x = new SameWater();
        due("law of " + text, Check.law(x, 0, 0, text), 0);
        due("tape after " + text, x.count(4), 0);
        due("laws after " + text, x.count(3), 1);
    }

    private static void fault(String text, int place) {
        SameWater x = new SameWater();
        due("law of " + text, Check.law(x, 0, 0, text), -10 - place);
        due("tape after " + text, x.count(4), 0);
        due("laws after " + text, x.count(3), 0);
    }

    /** "CLAUSES, 10 at most": 0 (nothing can be a law), 1, 9, 10, 11, of each sort. */
    private static void clausesTenAtMost() {
        fault("", 0);
        for (String clause : new String[] {"from 0 1", "over 0 1 2", "slip 3", "say 0 a<1"}) {
            isLaw(clause);
            isLaw((clause + ";").repeat(8) + clause);
            String ten = (clause + ";").repeat(9) + clause;
            isLaw(ten);
            fault(ten + ";", ten.length());
            fault(ten + ";slip 1", ten.length());
            fault((clause + ";").repeat(9), ten.length() - clause.length());
        }
        isLaw("from 0 1;over 0 1 2;slip 3;say 0 a<1;from 1 1;over 2 1 2;slip 4;say 0 a<1;from 2 1;over 3 3 0");
        fault("from 0 1;over 0 1 2;slip 3;say 0 a<1;from 1 1;over 2 1 2;slip 4;say 0 a<1;from 2 1;over 3 3 0;x", 93);
    }

    /** "with ; between": not ahead, not behind, not two; no other sign. */
    private static void semicolonBetween() {
        isLaw("slip 1;slip 2");
        fault(";", 0);
        fault(";slip 1", 0);
        fault("slip 1;", 7);
        fault("slip 1;;slip 2", 7);
        fault("slip 1:slip 2", 6);
        fault("slip 1<slip 2", 6);
        fault("slip 1,slip 2", 6);
        fault("slip 1 slip 2", 6);
        fault("slip 1; slip 2", 7);
        fault("slip 1 ;slip 2", 6);
        fault("slip 1slip 2", 6);
        fault("slip;1", 4);
    }

    /** "FAULT: .. the size, if it ends too early": each beginning of each sort of clause, alone and behind another. */
    private static void endsTooEarly() {
        for (String ahead : new String[] {"", "slip 1;", "say 0 a<1;"}) {
            for (String clause : new String[] {"from 0 1", "over 0 1 2", "slip 3", "say 0 !(a<1&k=2)"}) {
                for (int size = 0; size < clause.length(); size++) {
                    fault(ahead + clause.substring(0, size), ahead.length() + size);
                }
                isLaw(ahead + clause);
            }
            for (String clause : new String[] {"say 2 a<1|", "say 2 a<1&", "say 2 !!!!!", "say 2 (((((", "say 0 (a<1|k=1&!m>1"}) {
                fault(ahead + clause, ahead.length() + clause.length());
            }
        }
    }

    /** "FAULT: the place of the first byte with which no LAW can go on": each byte of what has no choice. */
    private static void eachByteOfAWord() {
        for (String clause : new String[] {"from 0 1", "over 0 1 2", "slip 1", "say 0 a<1"}) {
            int word = clause.indexOf(' ');
            for (int place = 0; place <= word; place++) {
                for (char wrong : new char[] {'?', '\0', '\u00ff', 'z', Character.toUpperCase(clause.charAt(place))}) {
                    if (wrong != clause.charAt(place)) {
                        fault(clause.substring(0, place) + wrong + clause.substring(place + 1), place);
                        fault("slip 1;" + clause.substring(0, place) + wrong, 7 + place);
                    }
                }
            }
        }
        fault("sat 0 a<1", 2);
        fault("slay 0 a<1", 2);
        fault("fver 0 1 2", 1);
        fault("orom 0 1", 1);
        fault("fromm 0 1", 4);
        fault("overr 0 1 2", 4);
        fault("slipp 1", 4);
        fault("sayy 0 a<1", 3);
    }

    /** "one blank ahead of each part behind the word": none, two, another sign, at each of them. */
    private static void oneBlankAheadOfEachPart() {
        for (String clause : new String[] {"from 0 1", "over 0 1 2", "slip 1", "say 0 a<1"}) {
            isLaw(clause);
            for (int blank = clause.indexOf(' '); blank >= 0; blank = clause.indexOf(' ', blank + 1)) {
                String ahead = clause.substring(0, blank);
                String behind = clause.substring(blank + 1);
                fault(ahead + behind, blank);
                fault(ahead + "  " + behind, blank + 1);
                fault(ahead + "\t" + behind, blank);
                fault(ahead + "!" + behind, blank);
                fault(ahead + "\u00a0" + behind, blank);
            }
            fault(" " + clause, 0);
            fault(clause + " ", clause.length());
        }
        fault("say 0 a <1", 7);
        fault("say 0 a< 1", 8);
        fault("say 0 a<1 |k=1", 9);
        fault("say 0 a<1| k=1", 10);
        fault("say 0 ! a<1", 7);
        fault("say 0 ( a<1)", 7);
        fault("say 0 (a<1 )", 10);
    }

    /** "k, j a digit 0 .. 3": '/' and '4' stand beside them. */
    private static void digitsOfStuffs() {
        for (char k = '0'; k <= '3'; k++) {
            isLaw("from " + k + " 1");
            for (char j = '0'; j <= '3'; j++) {
                isLaw("over " + k + " " + j + " 1");
            }
        }
        for (char wrong : new char[] {'/', '4', '9', ':', '-', 'k', ' ', '\0', '\u00b0'}) {
            fault("from " + wrong + " 1", 5);
            fault("over " + wrong + " 1 1", 5);
            fault("over 3 " + wrong + " 1", 7);
        }
        fault("from 00 1", 6);
        fault("over 00 1 1", 6);
        fault("over 0 11 1", 8);
    }

    /** "a a digit 0 .. 2": '/' and '3' stand beside them. */
    private static void digitOfASay() {
        for (char a = '0'; a <= '2'; a++) {
            isLaw("say " + a + " a<1");
        }
        for (char wrong : new char[] {'/', '3', '9', '-', ' ', 'a', '\0', '\u00b0'}) {
            fault("say " + wrong + " a<1", 4);
        }
        fault("say 00 a<1", 5);
        fault("say 12 a<1", 5);
    }

    private static final String[] AHEAD_OF_NUMBERS = {"from 0 ", "over 0 1 ", "slip ", "say 0 a<", "say 0 c=", "say 0 w>"};

    /** "n 1 to 3 digits", and "a number likewise". */
    private static void numbersOfThreeDigits() {
        for (String ahead : AHEAD_OF_NUMBERS) {
            for (String n : new String[] {"0", "1", "9", "10", "19", "99", "100", "109", "999"}) {
                isLaw(ahead + n);
                isLaw(ahead + n + ";slip 1");
            }
            fault(ahead, ahead.length());
            fault(ahead + ";", ahead.length());
            fault(ahead + "1000", ahead.length() + 3);
            fault(ahead + "9999;slip 1", ahead.length() + 3);
            for (char wrong : new char[] {'/', ':', '-', '+', 'a', '.', '\0', '\u00b2'}) {
                fault(ahead + wrong, ahead.length());
                fault(ahead + "1" + wrong, ahead.length() + 1);
                fault(ahead + "12" + wrong, ahead.length() + 2);
                fault(ahead + "123" + wrong, ahead.length() + 3);
            }
        }
    }

    /** "no 0 ahead of another". */
    private static void noZeroAhead() {
        for (String ahead : AHEAD_OF_NUMBERS) {
            for (String n : new String[] {"00", "01", "09", "001", "000"}) {
                fault(ahead + n, ahead.length() + 1);
            }
            isLaw(ahead + "100");
            isLaw(ahead + "101");
        }
    }

    /** Every number is read as what it is. */
    private static void numbersAreRead() {
        for (int n = 0; n <= 999; n++) {
            SameWater x = new SameWater();
            Check.law(x, 0, 0, "from 2 " + n + ";slip " + n);
            due("from " + n, x.told(0, 12), n);
            due("slip " + n, x.told(0, 2), Math.min(n, 100));
        }
    }

    /** "a TEST: a or k or m or t or e or w or c". */
    private static void lettersOfTests() {
        for (char letter = 0; letter < 256; letter++) {
            if ("akmtewc".indexOf(letter) >= 0) {
                isLaw("say 0 " + letter + "<1");
                isLaw("say 0 !" + letter + "<1");
                isLaw("say 0 a<1|" + letter + "<1");
            } else if (letter != '!' && letter != '(') {
                fault("say 0 " + letter + "<1", 6);
                fault("say 0 !" + letter + "<1", 7);
                fault("say 0 (" + letter + "<1)", 7);
                fault("say 0 a<1|" + letter + "<1", 10);
                fault("say 0 a<1&" + letter + "<1", 10);
            }
        }
    }

    /** "one of < = >": ';' and '?' stand beside them. */
    private static void signsOfTests() {
        for (char sign = 0; sign < 256; sign++) {
            if (sign >= '<' && sign <= '>') {
                isLaw("say 0 k" + sign + "1");
            } else {
                fault("say 0 k" + sign + "1", 7);
            }
        }
        fault("say 0 k<=1", 8);
        fault("say 0 k==1", 8);
        fault("say 0 k>>1", 8);
    }

    /** "E: T, or T|E. T: F, or F&T." */
    private static void eitherAndBoth() {
        isLaw("say 0 a<1|a<2|a<3");
        isLaw("say 0 a<1&a<2&a<3");
        isLaw("say 0 a<1&a<2|a<3&a<4");
        isLaw("say 0 (a<1|a<2)&!(a<3|a<4)");
        for (char join : new char[] {'|', '&'}) {
            fault("say 0 " + join + "a<1", 6);
            fault("say 0 a<1" + join, 10);
            fault("say 0 a<1" + join + ";", 10);
            fault("say 0 a<1" + join + "|a<2", 10);
            fault("say 0 a<1" + join + "&a<2", 10);
            fault("say 0 (a<1" + join + ")", 11);
            fault("say 0 (" + join + "a<1)", 7);
            fault("say 0 !" + join + "a<1", 7);
        }
        fault("say 0 a<1!a<2", 9);
        fault("say 0 a<1(a<2)", 9);
        fault("say 0 a<1a<2", 9);
        fault("say 0 ;slip 1", 6);
        fault("say 0 !;", 7);
    }

    /** ! and ( by bits, the first of them lowest: 0 is !, 1 is (. */
    private static String opened(int bits, int count) {
        StringBuilder text = new StringBuilder("say 0 ");
        for (int i = 0; i < count; i++) {
            text.append((bits >> i & 1) == 1 ? '(' : '!');
        }
        return text.toString();
    }

    /** "At most 5 of ! and ( are open": each mixture of 5, and of one more. */
    private static void fiveOpenAtMost() {
        for (int bits = 0; bits < 32; bits++) {
            String closed = "a<1" + ")".repeat(Integer.bitCount(bits));
            isLaw(opened(bits, 5) + closed);
            fault(opened(bits, 5) + "!" + closed, 11);
            fault(opened(bits, 5) + "(" + closed, 11);
            fault("slip 0;" + opened(bits, 5) + "!", 18);
            fault("slip 0;" + opened(bits, 5) + "(", 18);
            fault(opened(bits, 5), 11);
            if (bits < 16) {
                isLaw(opened(bits, 4) + closed);
            }
        }
    }

    /** "a ( till its ) , a ! till its F ends". */
    private static void openTillItEnds() {
        isLaw("say 0 !!!!!a<1&!!!!!a<1|!!!!!a<1");
        isLaw("say 0 (((((a<1)))))&(((((a<1)))))|(((((a<1)))))");
        isLaw("say 0 !(!(!a<1))&!(!(!a<1))");
        // Behind its ) a ( is open no more: one more has place.
        isLaw("say 0 ((((!a<1&!a<1|!a<1))))");
        isLaw("say 0 ((((!a<1&(a<1)&!a<1))))");
        isLaw("say 0 (((((a<1)&!a<1))))");
        isLaw("say 0 (((((a<1)))&!!!a<1))");
        fault("say 0 (((((a<1)))&!!!!a<1))", 21);
        isLaw("say 0 (((((a<1))))|!!!!a<1)");
        fault("say 0 (((((a<1))))|!!!!!a<1)", 23);
        fault("say 0 (((((a<1&!a<1)))))", 15);
        fault("say 0 (((((a<1|(a<1))))))", 15);
        // A ! of a bracket is open till the bracket ends.
        isLaw("say 0 !(!(!a<1&!a<1))");
        fault("say 0 !(!(!a<1&!!a<1))", 16);
        isLaw("say 0 !(a<1)&!!!!!a<1");
        isLaw("say 0 !!!!(a<1|a<1)");
        fault("say 0 !!!!(a<1|!a<1)", 15);
        isLaw("say 0 !!!!(a<1)|!!!!(a<1)");
        // Another clause begins with none open.
        isLaw("say 0 !!!!!a<1;say 1 !!!!!a<1;say 2 (((((a<1)))))");
    }

    private static void bracketsEnd() {
        isLaw("say 0 (a<1)");
        fault("say 0 ()", 7);
        fault("say 0 a<1)", 9);
        fault("say 0 (a<1))", 11);
        fault("say 0 (a<1", 10);
        fault("say 0 (a<1;", 10);
        fault("say 0 ((a<1)", 12);
        fault("say 0 (a<1]", 10);
        fault("say 0 )", 6);
        fault("slip (1)", 5);
        fault("from (0) 1", 5);
    }

    /** Bytes are 0 to 255: none above 127 is taken for a sign. */
    private static void bytesBeyondText() {
        for (String text : new String[] {"from 0 1", "say 0 a<1"}) {
            for (int place = 0; place < text.length(); place++) {
                char above = (char) (text.charAt(place) | 128);
                fault(text.substring(0, place) + above + text.substring(place + 1), place);
            }
        }
    }

    private static void froms(String text, int... froms) {
        SameWater x = new SameWater();
        Check.law(x, 0, 0, text);
        for (int stuff = 0; stuff < 4; stuff++) {
            due("from of " + stuff + " by " + text, x.told(0, 10 + stuff), froms[stuff]);
        }
    }

    /** "FROM of a STUFF: the n of its last from (84 without)". */
    private static void fromLastAndWithout() {
        froms("slip 1", 84, 84, 84, 84);
        froms("from 0 0", 0, 84, 84, 84);
        froms("from 3 999", 84, 84, 84, 999);
        froms("from 1 30;from 1 20", 84, 20, 84, 84);
        froms("from 1 30;from 1 40", 84, 40, 84, 84);
        froms("from 1 30;from 2 40;slip 50;over 1 1 60", 84, 30, 40, 84);
        froms("from 0 1;from 1 2;from 2 3;from 3 4;from 0 5;from 1 6;from 2 7;from 3 8;from 0 9;from 1 10", 9, 10, 7, 8);
    }

    private static void slip(String text, int want) {
        SameWater x = new SameWater();
        Check.law(x, 0, 0, text);
        due("slip of " + text, x.told(0, 2), want);
    }

    /** "SLIP: the last n (100, if that is more; 0 without)". */
    private static void slipLastMoreAndWithout() {
        slip("from 0 30", 0);
        slip("say 1 a<50", 0);
        slip("over 0 1 7", 0);
        slip("slip 0", 0);
        slip("slip 99", 99);
        slip("slip 100", 100);
        slip("slip 101", 100);
        slip("slip 999", 100);
        slip("slip 999;slip 5", 5);
        slip("slip 5;slip 999", 100);
        slip("slip 7;slip 0", 0);
        slip("slip 7;from 0 8;slip 3;from 1 9", 3);
    }

    /** THE TAPE "is empty then (by a FAULT, too)": no byte of a longer text stands behind a shorter one. */
    private static void emptyThen() {
        String longer = "slip 12;say 0 !(a<12|k=1&!m>1)|t=2&e<9;from 0 123;over 1 2 34?";
        for (int size = 0; size < longer.length(); size++) {
            String text = longer.substring(0, size);
            boolean isLaw = Model.isLaw(text);
            SameWater x = new SameWater();
            due("fault of the longer", Check.law(x, 0, 0, longer), -10 - longer.length() + 1);
            due("empty", x.count(4), 0);
            due("then " + text, Check.law(x, 0, 0, text), isLaw ? 0 : -10 - size);
            due("empty again", x.count(4), 0);
            SameWater y = new SameWater();
            due("the longer", Check.law(y, 0, 0, longer.substring(0, longer.length() - 1)), 0);
            due("empty", y.count(4), 0);
            due("then " + text, Check.law(y, 0, 0, text), isLaw ? 1 : -10 - size);
        }
    }

    /** What a text with a FAULT told is not in the law that comes next. */
    private static void faultLeavesNothing() {
        SameWater x = new SameWater();
        x.child(50);
        x.teach(0, 0);
        x.asking(0, 0, 1, false, 0, 9, 0);
        due("fault", Check.law(x, 6, 9, "from 0 1;over 0 1 0;slip 9;say 2 a>0;"), -47);
        due("law", Check.law(x, 0, 0, "from 2 40"), 0);
        int[] due = {0, 0, 0, 84, 84, 40, 84};
        int[] what = {0, 1, 2, 10, 11, 12, 13};
        for (int i = 0; i < due.length; i++) {
            due("told " + what[i], x.told(0, what[i]), due[i]);
        }
        due("no over", x.keeps(0, 0, 1), 0);
        due("no say", x.tells(0, 0, 0), 1);
    }
}
