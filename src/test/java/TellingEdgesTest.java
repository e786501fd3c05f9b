/** The edges of what a LAW tells (section 2): its says, then each KIND. */
public final class TellingEdgesTest {
    private static final Check CHECK = new Check();
    private static final int ANSWER = 0, LENGTH = 1, KEPT = 2, AGAIN = 3, WORDED = 4, WANTING = 5, EACH = 6;

    public static void main(String[] args) {
        eachTestAtItsEdges();
        changedIsMoreOrLess();
        joinedTests();
        firstSayThatHolds();
        noSayHolds();
        sayBeforeKind();
        answerTheSame();
        lengthFromVOn();
        lengthOfNoneAsOfOne();
        keptAsTrulyElseAsItLooks();
        wordedTheOtherWayRound();
        wordedOfVZero();
        againOfAManTwice();
        wantingToEatFromAge();
        eachOfLesserNumbers();
        eachIsAgain();
        slipsTellNothing();
        eachKindKeepsFrom84Without();
        looksAboveNoneWhateverV();
        eachKindOfTheAgeThen();
        wantingOfTheAgeThen();
        sayOfTheAgeThen();
        CHECK.end();
    }

    private static void due(String call, long got, long want) {
        CHECK.due(call, got, want);
    }

    private static int signed(int x) {
        return x > 0 ? 2 : x < 0 ? 0 : 1;
    }

    /** What a law tells of a child of such an age and one asking. */
    private static int told(int kind, int v, String law, int age, int... a) {
        SameWater x = new SameWater();
        x.child(age);
        x.asking(a[0], a[1], a[2], a[3] == 1, a[4], a[5], a[6]);
        Check.law(x, kind, v, law);
        return x.tells(0, 0, 0);
    }

    /** Three tests of a letter that is n: at n - 1, n, n + 1. */
    private static void tested(char letter, int is, int age, int... a) {
        for (int n = Math.max(0, is - 1); n <= is + 1; n++) {
            String test = letter + "? " + n + " of " + is;
            due(test + " <", told(ANSWER, 0, "say 2 " + letter + "<" + n, age, a), is < n ? 2 : 1);
            due(test + " =", told(ANSWER, 0, "say 2 " + letter + "=" + n, age, a), is == n ? 2 : 1);
            due(test + " >", told(ANSWER, 0, "say 2 " + letter + ">" + n, age, a), is > n ? 2 : 1);
        }
        due(letter + " below 999", told(ANSWER, 0, "say 2 " + letter + "<999", age, a), 2);
        due(letter + " above 999", told(ANSWER, 0, "say 2 " + letter + ">999", age, a), 1);
    }

    /** "a AGE, k STUFF, m who MOVED, t TIMES, e END, w WORD, c 1 if it IS changed". */
    private static void eachTestAtItsEdges() {
        for (int age : new int[] {24, 25, 99, 100, 101, 119, 120}) {
            tested('a', age, age, 0, 0, 1, 0, 0, 0, 0);
        }
        for (int stuff = 0; stuff <= 3; stuff++) {
            tested('k', stuff, 50, stuff, 0, 1, 0, 0, 0, 0);
        }
        for (int moved = 0; moved <= 2; moved++) {
            tested('m', moved, 50, 0, moved, 1, 0, 0, 0, 0);
        }
        for (int times = 1; times <= 2; times++) {
            tested('t', times, 50, 0, 0, times, 0, 0, 0, 0);
        }
        for (int end = 0; end <= 1; end++) {
            tested('e', end, 50, 0, 0, 1, end, 0, 0, 0);
        }
        for (int word = 0; word <= 3; word++) {
            tested('w', word, 50, 0, 0, 1, 0, word, 0, 0);
        }
        for (int truly = -1; truly <= 1; truly++) {
            tested('c', truly == 0 ? 0 : 1, 50, 0, 0, 1, 0, 0, 0, truly);
        }
    }

    private static void changedIsMoreOrLess() {
        for (int looks : new int[] {-9, 0, 9}) {
            due("less is changed", told(ANSWER, 0, "say 2 c=1", 50, 0, 0, 1, 0, 0, looks, -1), 2);
            due("more is changed", told(ANSWER, 0, "say 2 c=1", 50, 0, 0, 1, 0, 0, looks, 1), 2);
            due("the same is not", told(ANSWER, 0, "say 2 c=1", 50, 0, 0, 1, 0, 0, looks, 0), 1);
        }
    }

    private static void holds(String e, boolean want) {
        due(e, told(ANSWER, 0, "say 2 " + e, 50, 0, 0, 1, 0, 0, 0, 0), want ? 2 : 1);
    }

    /** "E: T, or T|E. T: F, or F&T. F: !F, (E), or a TEST": all of two and three tests. */
    private static void joinedTests() {
        String[] test = {"a<0", "a>0"};
        for (int bits = 0; bits < 8; bits++) {
            boolean p = (bits & 1) != 0;
            boolean q = (bits & 2) != 0;
            boolean r = (bits & 4) != 0;
            String a = test[bits & 1];
            String b = test[bits >> 1 & 1];
            String c = test[bits >> 2];
            holds(a + "|" + b, p || q);
            holds(a + "&" + b, p && q);
            holds("!" + a + "&" + b, !p && q);
            holds("!" + a + "|" + b, !p || q);
            holds("!(" + a + "|" + b + ")", !(p || q));
            holds("!(" + a + "&" + b + ")", !(p && q));
            holds("!!" + a + "&!!!" + b, p && !q);
            holds(a + "|" + b + "|" + c, p || q || r);
            holds(a + "&" + b + "&" + c, p && q && r);
            holds(a + "|" + b + "&" + c, p || q && r);
            holds(a + "&" + b + "|" + c, p && q || r);
            holds("(" + a + "|" + b + ")&" + c, (p || q) && r);
            holds(a + "&(" + b + "|" + c + ")", p && (q || r));
            holds("((((" + a + "&(" + b + "|" + c + ")))))", p && (q || r));
            holds(a + "|(" + b + "|(" + c + "&(" + a + "|(" + b + "&(" + c + ")))))", p || q || r && (p || q && r));
            holds("!(" + a + "&!(" + b + "&!" + c + "))", !(p && !(q && !r)));
        }
    }

    /** "that of the first say whose E holds". */
    private static void firstSayThatHolds() {
        for (int first = 0; first <= 2; first++) {
            for (int second = 0; second <= 2; second++) {
                String law = "say " + first + " a>50;say " + second + " a>40;from 0 0";
                due(law + " of 51", told(KEPT, 0, law, 51, 0, 0, 1, 0, 0, 5, 0), first);
                due(law + " of 50", told(KEPT, 0, law, 50, 0, 0, 1, 0, 0, 5, 0), second);
                due(law + " of 40", told(KEPT, 0, law, 40, 0, 0, 1, 0, 0, 5, 0), 1);
            }
        }
        String ten = "say 0 a=30;say 0 a=31;say 0 a=32;say 0 a=33;say 0 a=34;say 0 a=35;say 0 a=36;say 0 a=37;say 0 a=38;say 2 ";
        due("the 10th", told(ANSWER, 0, ten + "a=39", 39, 0, 0, 1, 0, 0, 0, 0), 2);
        due("the 9th", told(ANSWER, 0, ten + "a=39", 38, 0, 0, 1, 0, 0, 0, 0), 0);
        due("none of 10", told(ANSWER, 0, ten + "a=39", 40, 0, 0, 1, 0, 0, 0, 0), 1);
        due("between others", told(ANSWER, 0, "slip 1;say 0 a<1;from 0 1;say 2 a>1;over 0 1 2", 50, 0, 0, 1, 0, 0, 0, 0), 2);
    }

    /** "else by KIND". */
    private static void noSayHolds() {
        for (int kind = 0; kind <= 6; kind++) {
            due("none holds " + kind, told(kind, 1, "say 0 a<50;say 0 a>50", 50, 0, 1, 1, 0, 0, 5, 0), kind == ANSWER ? 1 : 2);
            due("no say " + kind, told(kind, 1, "slip 0", 50, 0, 1, 1, 0, 0, 5, 0), kind == ANSWER ? 1 : 2);
        }
    }

    private static void sayBeforeKind() {
        for (int kind = 0; kind <= 6; kind++) {
            for (int said = 0; said <= 2; said++) {
                due("say " + said + " of " + kind, told(kind, 0, "say " + said + " a>0", 50, 0, 0, 2, 1, 0, 5, 0), said);
            }
        }
    }

    /** "ANSWER: the same." */
    private static void answerTheSame() {
        for (int looks = -9; looks <= 9; looks += 9) {
            for (int truly = -1; truly <= 1; truly++) {
                due("same", told(ANSWER, 1, "slip 0", 120, 0, 0, 2, 1, 1, looks, truly), 1);
            }
        }
    }

    /** "LENGTH: more, if LOOKS is v or more, less, if it is -v or less". */
    private static void lengthFromVOn() {
        for (int v = 1; v <= 9; v++) {
            for (int looks = -9; looks <= 9; looks++) {
                int want = looks >= v ? 2 : looks <= -v ? 0 : 1;
                due("length " + v + " looks " + looks, told(LENGTH, v, "slip 0", 90, 0, 0, 1, 0, v % 4, looks, 0), want);
            }
        }
        due("whatever it is truly", told(LENGTH, 3, "slip 0", 90, 0, 0, 1, 1, 0, 2, 1), 1);
    }

    /** "(v 0 as 1)". */
    private static void lengthOfNoneAsOfOne() {
        for (int looks = -9; looks <= 9; looks++) {
            due("length 0 looks " + looks, told(LENGTH, 0, "slip 0", 90, 0, 0, 1, 0, 0, looks, 1), signed(looks));
            due("length 1 looks " + looks, told(LENGTH, 1, "slip 0", 90, 0, 0, 1, 0, 1, looks, 1), signed(looks));
        }
    }

    /** "KEPT: if it KEEPS the STUFF: as it is TRULY; else as it LOOKS: more above 0, less below 0, else the same". */
    private static void keptAsTrulyElseAsItLooks() {
        for (int v : new int[] {0, 1, 9}) {
            for (int truly = -1; truly <= 1; truly++) {
                for (int looks : new int[] {-9, -1, 0, 1, 9}) {
                    due("kept at 84", told(KEPT, v, "slip 0", 84, 2, 0, 2, 1, 1, looks, truly), truly + 1);
                    due("kept at 83", told(KEPT, v, "slip 0", 83, 2, 0, 2, 1, 1, looks, truly), signed(looks));
                }
            }
        }
    }

    /** "WORDED: as LENGTH, but the other way round, if WORD is v (as it is)". */
    private static void wordedTheOtherWayRound() {
        for (int v = 1; v <= 9; v++) {
            for (int word = 0; word <= 3; word++) {
                for (int looks : new int[] {-9, -v, 1 - v, 0, v - 1, v, 9}) {
                    int length = looks >= v ? 2 : looks <= -v ? 0 : 1;
                    int got = told(WORDED, v, "slip 0", 90, 0, 0, 1, 0, word, looks, 0);
                    due("worded " + v + " word " + word + " looks " + looks, got, word == v ? 2 - length : length);
                }
            }
        }
    }

    /** A v of 0 is 1 for LOOKS, but 0 for WORD. */
    private static void wordedOfVZero() {
        for (int looks = -2; looks <= 2; looks++) {
            due("word 0 looks " + looks, told(WORDED, 0, "slip 0", 90, 0, 0, 1, 0, 0, looks, 0), 2 - signed(looks));
            due("word 1 looks " + looks, told(WORDED, 0, "slip 0", 90, 0, 0, 1, 0, 1, looks, 0), signed(looks));
        }
    }

    /** "AGAIN: as KEPT; but where that is the same, the ASKING is MOVED by a man and TIMES is 2: as it LOOKS." */
    private static void againOfAManTwice() {
        for (int moved = 0; moved <= 2; moved++) {
            for (int times = 1; times <= 2; times++) {
                for (int truly = -1; truly <= 1; truly++) {
                    for (int looks = -1; looks <= 1; looks++) {
                        boolean pressed = truly == 0 && moved == 0 && times == 2;
                        String asked = moved + " " + times + " " + truly + " " + looks;
                        due("again at 84 " + asked, told(AGAIN, 0, "slip 0", 84, 0, moved, times, 0, 0, looks, truly),
                                pressed ? signed(looks) : truly + 1);
                        due("again at 83 " + asked, told(AGAIN, 0, "slip 0", 83, 0, moved, times, 0, 0, looks, truly),
                                signed(looks));
                        due("kept at 84 " + asked, told(KEPT, 0, "slip 0", 84, 0, moved, times, 0, 0, looks, truly), truly + 1);
                    }
                }
            }
        }
    }

    /** "WANTING: as KEPT; but if END is to eat and AGE is 6 times v or more: as it is TRULY." */
    private static void wantingToEatFromAge() {
        for (int v = 4; v <= 9; v++) {
            for (int age = Math.max(24, 6 * v - 1); age <= 6 * v + 1; age++) {
                for (int truly = -1; truly <= 1; truly++) {
                    due("to eat " + v + " at " + age, told(WANTING, v, "slip 0", age, 3, 0, 2, 1, 0, 1 - truly * 2, truly),
                            age >= 6 * v ? truly + 1 : signed(1 - truly * 2));
                    due("to count " + v + " at " + age, told(WANTING, v, "slip 0", age, 3, 0, 2, 0, 0, 1 - truly * 2, truly),
                            signed(1 - truly * 2));
                }
            }
        }
        for (int v = 0; v <= 3; v++) {
            due("24 to eat " + v, told(WANTING, v, "slip 0", 24, 0, 1, 1, 1, 0, 5, -1), 0);
            due("24 to count " + v, told(WANTING, v, "slip 0", 24, 0, 1, 1, 0, 0, 5, -1), 2);
        }
        due("53 of 9 keeps", told(WANTING, 9, "from 0 53", 53, 0, 1, 1, 1, 0, 5, -1), 0);
    }

    /** "EACH: .. as if it did not KEEP the STUFF, if there is one of a lesser number that it does not KEEP": all 16. */
    private static void eachOfLesserNumbers() {
        for (int kept = 0; kept < 16; kept++) {
            StringBuilder law = new StringBuilder("slip 0");
            for (int stuff = 0; stuff < 4; stuff++) {
                law.append(";from ").append(stuff).append((kept >> stuff & 1) == 1 ? " 50" : " 51");
            }
            boolean all = true;
            for (int stuff = 0; stuff < 4; stuff++) {
                all &= (kept >> stuff & 1) == 1;
                due(law + " each of " + stuff, told(EACH, 0, law.toString(), 50, stuff, 1, 1, 0, 0, 7, 0), all ? 1 : 2);
                due(law + " again of " + stuff, told(AGAIN, 0, law.toString(), 50, stuff, 1, 1, 0, 0, 7, 0),
                        (kept >> stuff & 1) == 1 ? 1 : 2);
            }
        }
    }

    private static void eachIsAgain() {
        due("a man twice", told(EACH, 0, "slip 0", 84, 3, 0, 2, 0, 0, 5, 0), 2);
        due("a man once", told(EACH, 0, "slip 0", 84, 3, 0, 1, 0, 0, 5, 0), 1);
        due("a bear twice", told(EACH, 0, "slip 0", 84, 3, 1, 2, 0, 0, 5, 0), 1);
        due("changed", told(EACH, 0, "slip 0", 84, 3, 0, 2, 0, 0, 5, -1), 0);
    }

    private static void slipsTellNothing() {
        due("slip 100", told(KEPT, 0, "slip 100", 84, 0, 0, 1, 0, 0, 5, 0), 1);
        due("slip 999", told(LENGTH, 0, "slip 999", 84, 0, 0, 1, 0, 0, 5, 0), 2);
    }

    private static final int[] KEEPING = {KEPT, AGAIN, WANTING, EACH};

    /** "FROM .. (84 without)", by each KIND that asks whether it KEEPS. */
    private static void eachKindKeepsFrom84Without() {
        for (int kind : KEEPING) {
            for (int stuff = 0; stuff < 4; stuff++) {
                due("kind " + kind + " at 83", told(kind, 0, "slip 0", 83, stuff, 1, 1, 0, 0, 5, -1), 2);
                due("kind " + kind + " at 84", told(kind, 0, "slip 0", 84, stuff, 1, 1, 0, 0, 5, -1), 0);
            }
        }
    }

    /** "as it LOOKS: more above 0, less below 0": v is none of it. */
    private static void looksAboveNoneWhateverV() {
        for (int kind : KEEPING) {
            for (int v : new int[] {0, 1, 2, 9}) {
                for (int looks = -2; looks <= 2; looks++) {
                    String call = "kind " + kind + " v " + v + " looks " + looks;
                    due(call + " not kept", told(kind, v, "slip 0", 50, 2, 1, 1, 0, 0, looks, 0), signed(looks));
                    due(call + " twice", told(kind, v, "slip 0", 90, 2, 0, 2, 0, 0, looks, 0),
                            kind == AGAIN || kind == EACH ? signed(looks) : 1);
                }
            }
        }
    }

    /** "what it is as a law tells, of the AGE then": kept from 60 on, or since it was taught at 60. */
    private static void eachKindOfTheAgeThen() {
        for (int kind : KEEPING) {
            for (String law : new String[] {"from 0 60;from 1 60", "slip 0"}) {
                SameWater x = new SameWater();
                x.child(59);
                x.asking(1, 1, 1, false, 0, 5, -1);
                x.answer(0, 0, 2, false);
                x.answer(0, 0, 0, false);
                x.grow(1);
                x.answer(0, 0, 2, false);
                x.answer(0, 0, 0, false);
                if (law.equals("slip 0")) {
                    x.teach(0, 0);
                    x.teach(0, 1);
                }
                x.grow(5);
                Check.law(x, kind, 0, law);
                String call = "kind " + kind + " " + law;
                due(call + " now", x.tells(0, 0, 0), 0);
                int[] chances = {1, 0, 0, 1};
                for (int answer = 0; answer < 4; answer++) {
                    due(call + " of answer " + answer, x.chance(0, answer, 0), chances[answer]);
                }
                due(call + " right", x.right(0), 2);
                due(call + " cannot", x.cannot(0), 1);
                due(call + " odds", x.odds(0, 9, 0), 1);
                due(call + " odds of none", x.odds(0, 6, 0), 0);
            }
        }
    }

    /** "if END is to eat and AGE is 6 times v or more": of answers, the AGE then; of children, each one's own. */
    private static void wantingOfTheAgeThen() {
        SameWater x = new SameWater();
        x.child(90);
        x.child(47);
        x.asking(0, 1, 1, true, 0, 5, -1);
        Check.law(x, WANTING, 8, "from 0 999");
        for (int age = 47; age <= 49; age++) {
            x.answer(1, 0, 0, false);
            due("told at " + age, x.tells(0, 1, 0), age < 48 ? 2 : 0);
            x.grow(1);
        }
        for (int answer = 0; answer < 3; answer++) {
            due("at " + (47 + answer), x.chance(0, answer, 0), answer == 0 ? 0 : 1);
        }
        due("right", x.right(0), 2);
        due("cannot", x.cannot(0), 0);
        due("child 0", x.tells(0, 0, 0), 0);
    }

    private static void sayOfTheAgeThen() {
        for (int kind = ANSWER; kind <= EACH; kind++) {
            SameWater x = new SameWater();
            x.child(90);
            x.child(49);
            x.asking(0, 1, 1, false, 0, 0, 0);
            Check.law(x, kind, 1, "say 0 a<50;say 2 a=50");
            for (int said = 0; said < 3; said++) {
                x.answer(1, 0, 0, false);
                x.answer(1, 0, 2, false);
                x.answer(1, 0, 1, false);
                x.grow(1);
            }
            int[] chances = {1, 0, 0, 0, 1, 0, 0, 0, 1};
            for (int answer = 0; answer < chances.length; answer++) {
                due("kind " + kind + " of answer " + answer, x.chance(0, answer, 0), chances[answer]);
            }
        }
    }
}
