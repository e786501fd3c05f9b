import java.util.Arrays;

/** The edges of ACTS and THE TRACE (section 2), of kinds under kinds, and of THE IMAGE (section 3). */
public final class ActsEdgesTest {
    private static final Check CHECK = new Check();
    private static final int LEAST = Integer.MIN_VALUE, GREATEST = Integer.MAX_VALUE;
    private static final int ANSWER = 0, LENGTH = 1, KEPT = 2, AGAIN = 3, WORDED = 4, WANTING = 5, EACH = 6;
    private static final int RULES = 0, READS = 1, ANSWERS = 2;

    /** The KINDS above each one, itself first. */
    private static final int[][] UP = {{0}, {1, 0}, {2, 0}, {3, 2, 0}, {4, 1, 0}, {5, 2, 0}, {6, 3, 2, 0}};

    /** The bodies of rules, reads and answers of each KIND, as they begin. */
    private static final int[][][] RAN = {
        {{1}, {2, 1}, {3, 2, 1}},
        {{11, 1}, {2, 11, 1}, {3, 2, 11, 1}},
        {{1}, {21, 2, 1}, {3, 21, 2, 1}},
        {{1}, {21, 2, 1}, {31, 3, 21, 2, 1}},
        {{11, 1}, {2, 11, 1}, {41, 3, 2, 11, 1, 11, 1}},
        {{51, 1}, {21, 2, 51, 1}, {3, 21, 2, 51, 1}},
        {{1}, {61, 21, 2, 1}, {31, 3, 61, 21, 2, 1}},
    };

    public static void main(String[] args) {
        bodiesOfEachKind();
        intsWrap();
        iIsItsNumber();
        noTraceWithoutLawOrAct();
        traceOfTheLatestAct();
        traceFirst20AndAll();
        asKindsUnderKinds();
        asEachNumber();
        imageOfNobody();
        imageOfAllThatIsFull();
        imageOfEachThing();
        imageOfTheTapesBytes();
        imageIsNotInTheImage();
        traceIsNotInTheImage();
        lawsAfterAnUndo();
        othersAfterAnUndo();
        imageTellsHowManyChildren();
        countsOfWhat();
        CHECK.end();
    }

    private static void due(String call, long got, long want) {
        CHECK.due(call, got, want);
    }

    /** A law of this KIND and v with this number; those ahead of it are of other kinds. */
    private static SameWater law(int kind, int v, int number) {
        SameWater x = new SameWater();
        for (int i = 0; i < number; i++) {
            Check.law(x, (kind + 1 + i) % 7, 9 - v, "slip 0");
        }
        Check.law(x, kind, v, "slip 0");
        return x;
    }

    /** The document's bodies, each KIND's written out whole. */
    private static int rules(int kind, int i, int x) {
        return kind == LENGTH || kind == WORDED ? x * 3 + i : kind == WANTING ? x + i ^ i : x + i;
    }

    private static int reads(int kind, int v, int i, int x) {
        int read = rules(kind, i, x) - v;
        return kind == ANSWER || kind == LENGTH || kind == WORDED ? read : kind == EACH ? -read + v : -read;
    }

    private static int answers(int kind, int v, int i, int x) {
        if (kind == WORDED) {
            return reads(kind, v, i, x - 1) * 2 + rules(kind, i, 2);
        }
        int answer = reads(kind, v, i, x) * 2;
        return kind == AGAIN || kind == EACH ? answer ^ 7 : answer;
    }

    private static void acts(int kind, int v, int number, int... xs) {
        SameWater w = law(kind, v, number);
        for (int x : xs) {
            String call = "kind " + kind + " v " + v + " law " + number + " x " + x;
            due("rules " + call, w.act(number, RULES, x), rules(kind, number, x));
            ran(w, call, RAN[kind][RULES]);
            due("reads " + call, w.act(number, READS, x), reads(kind, v, number, x));
            ran(w, call, RAN[kind][READS]);
            due("answers " + call, w.act(number, ANSWERS, x), answers(kind, v, number, x));
            ran(w, call, RAN[kind][ANSWERS]);
        }
    }

    private static void ran(SameWater w, String call, int... bodies) {
        due("count of " + call, w.count(5), bodies.length);
        for (int i = 0; i < bodies.length; i++) {
            due("body " + i + " of " + call, w.trace(i), bodies[i]);
        }
        due("no more of " + call, w.trace(bodies.length), SameWater.NONE);
    }

    /** BODIES of all KINDS, of the least and the greatest v and law. */
    private static void bodiesOfEachKind() {
        for (int kind = 0; kind <= 6; kind++) {
            for (int v : new int[] {0, 1, 9}) {
                acts(kind, v, 0, 0, 1, 10, -10);
                acts(kind, v, 7, 0, 1, 10, -10);
            }
        }
    }

    /** "(ints, wrapping)". */
    private static void intsWrap() {
        int[] xs = {GREATEST, GREATEST - 1, GREATEST - 7, LEAST, LEAST + 1, LEAST + 8, 1 << 30, (1 << 30) - 5, -(1 << 30) - 1,
            GREATEST / 3, GREATEST / 3 + 1, LEAST / 3 - 1, 715827883, 1431655766};
        for (int kind = 0; kind <= 6; kind++) {
            acts(kind, 9, 7, xs);
            acts(kind, 1, 1, xs);
        }
        // Each sign that can wrap, written out.
        due("x + i", law(ANSWER, 0, 1).act(1, RULES, GREATEST), LEAST);
        due("rules(x) - v", law(ANSWER, 1, 0).act(0, READS, LEAST), GREATEST);
        due("reads(x) * 2", law(ANSWER, 0, 0).act(0, ANSWERS, 1 << 30), LEAST);
        due("x * 3", law(LENGTH, 0, 0).act(0, RULES, 1 << 30), -(1 << 30));
        due("-super.reads(x)", law(KEPT, 0, 0).act(0, READS, LEAST), LEAST);
        due("x - 1", law(WORDED, 0, 0).act(0, ANSWERS, LEAST), 2 * (GREATEST * 3) + 6);
        due(".. + rules(2)", law(WORDED, 0, 0).act(0, ANSWERS, 357913942), LEAST + 4);
        due("super.reads(x) + v", law(EACH, 9, 0).act(0, READS, LEAST + 10), LEAST + 8);
    }

    /** "i its number". */
    private static void iIsItsNumber() {
        SameWater x = new SameWater();
        for (int i = 0; i < 8; i++) {
            Check.law(x, i % 7, 0, "slip 0");
        }
        int[] rules = {100, 301, 102, 103, 304, 105 ^ 5, 106, 107};
        for (int i = 0; i < 8; i++) {
            due("rules of law " + i, x.act(i, RULES, 100), rules[i]);
        }
    }

    /** "0, and no TRACE then: no such LAW, act." */
    private static void noTraceWithoutLawOrAct() {
        int[][] none = {{1, 0}, {-1, 0}, {8, 0}, {LEAST, 0}, {GREATEST, 0}, {0, -1}, {0, 3}, {0, LEAST}, {0, GREATEST}, {1, 3}};
        for (int[] of : none) {
            SameWater x = law(ANSWER, 3, 0);
            due("ahead", x.act(0, ANSWERS, 5), 4);
            due("ran ahead", x.count(5), 3);
            due("act " + of[0] + " " + of[1], x.act(of[0], of[1], 5), 0);
            due("none ran", x.count(5), 0);
            due("no trace", x.trace(0), SameWater.NONE);
            due("again", x.act(0, RULES, 5), 5);
            ran(x, "again", 1);
        }
        SameWater x = new SameWater();
        due("no laws", x.act(0, 0, 5), 0);
    }

    /** "in the latest act()": nothing of a longer one stays. */
    private static void traceOfTheLatestAct() {
        SameWater x = new SameWater();
        due("none yet", x.trace(0), SameWater.NONE);
        due("none ran yet", x.count(5), 0);
        Check.law(x, WORDED, 1, "slip 0");
        due("a law is no act", x.count(5), 0);
        x.act(0, ANSWERS, 1);
        ran(x, "longer", 41, 3, 2, 11, 1, 11, 1);
        x.act(0, RULES, 1);
        ran(x, "shorter", 11, 1);
        x.tells(0, 0, 0);
        x.child(50);
        x.grow(1);
        ran(x, "after other calls", 11, 1);
    }

    /** "the first 20 are kept": no KIND's run is longer than 7, and beyond what ran there is none. */
    private static void traceFirst20AndAll() {
        int most = 0;
        for (int kind = 0; kind <= 6; kind++) {
            SameWater x = law(kind, 5, 0);
            for (int act = 0; act <= 2; act++) {
                x.act(0, act, 1);
                most = Math.max(most, x.count(5));
                for (int i : new int[] {x.count(5), 18, 19, 20, 21, -1, LEAST, GREATEST}) {
                    due("trace " + i, x.trace(i), SameWater.NONE);
                }
                due("the first", x.trace(0), RAN[kind][act][0]);
                due("the last", x.trace(x.count(5) - 1), 1);
            }
        }
        due("the longest", most, 7);
    }

    /** "A LAW taken for a KIND k (0 .. 6), or one under that: its v", "-6: it is of another KIND". */
    private static void asKindsUnderKinds() {
        for (int kind = 0; kind <= 6; kind++) {
            SameWater x = law(kind, 4, 2);
            for (int k = 0; k <= 6; k++) {
                int asked = k;
                boolean under = Arrays.stream(UP[kind]).anyMatch(up -> up == asked);
                due("kind " + kind + " as " + k, x.as(2, k), under ? 4 : -6);
            }
            for (int k : new int[] {-1, 7, LEAST, GREATEST}) {
                due("kind " + kind + " as " + k, x.as(2, k), SameWater.NONE);
            }
            for (int law : new int[] {-1, 3, 8, LEAST, GREATEST}) {
                due("law " + law, x.as(law, 0), SameWater.NONE);
                due("law " + law + " of another kind", x.as(law, 1), SameWater.NONE);
            }
        }
    }

    private static void asEachNumber() {
        for (int v = 0; v <= 9; v++) {
            due("v " + v, law(AGAIN, v, 0).as(0, KEPT), v);
            due("v " + v + " of another kind", law(AGAIN, v, 0).as(0, LENGTH), -6);
            for (int kind = 0; kind <= 6; kind++) {
                due("v " + v + " of kind " + kind, law(kind, v, 1).as(1, kind), v);
                due("v " + v + " of an ANSWER", law(kind, v, 1).as(1, ANSWER), v);
            }
        }
    }

    private static SameWater some() {
        SameWater x = new SameWater();
        x.child(50);
        x.asking(0, 1, 1, false, 0, 5, 0);
        x.answer(0, 0, 1, false);
        x.teach(0, 0);
        Check.law(x, KEPT, 3, "over 0 1 6");
        Check.write(x, "slip 4");
        return x;
    }

    private static void counts(String call, SameWater x, int... due) {
        for (int what = 0; what < due.length; what++) {
            due(call + ", count " + what, x.count(what), due[what]);
        }
    }

    /** An image of nobody is one: all goes. */
    private static void imageOfNobody() {
        SameWater x = new SameWater();
        due("none yet", x.undo(), SameWater.STATE);
        due("image", x.image(), 0);
        due("nothing since", x.undo(), 0);
        x.child(50);
        x.asking(0, 1, 1, false, 0, 5, 0);
        x.answer(0, 0, 1, false);
        Check.law(x, KEPT, 3, "over 0 1 6");
        Check.write(x, "slip 4");
        due("undo", x.undo(), 0);
        counts("nothing", x, 0, 0, 0, 0, 0);
        due("no age", x.age(0), SameWater.NONE);
        due("no asking", x.of(0, 0), -1001);
        due("no answer", x.answered(0, 0), SameWater.NONE);
        due("no law", x.told(0, 0), SameWater.NONE);
        due("from the first on", x.child(60), 0);
        due("not taught", x.teach(0, 0), 1);
    }

    /** 8 CHILDREN, 16 ASKINGS, 40 ANSWERS, 8 LAWS, 120 bytes: all come back, and are full. */
    private static void imageOfAllThatIsFull() {
        SameWater x = new SameWater();
        for (int i = 0; i < 8; i++) {
            x.child(40 + i);
            Check.law(x, i % 7, i, "slip " + i);
        }
        for (int i = 0; i < 16; i++) {
            x.asking(i % 4, 0, 1, false, 0, i - 8, 0);
        }
        for (int i = 0; i < 40; i++) {
            x.answer(i % 8, i % 16, i % 3, false);
        }
        for (int i = 0; i < 15; i++) {
            x.feed(0x736c697020313b3bL, 8);
        }
        due("image", x.image(), 8);
        x.grow(30);
        due("undo", x.undo(), 8);
        counts("full", x, 8, 16, 40, 8, 120);
        due("child", x.child(50), SameWater.FULL);
        due("asking", x.asking(0, 0, 1, false, 0, 0, 0), SameWater.FULL);
        due("answer", x.answer(0, 0, 1, false), SameWater.FULL);
        due("law", x.law(0, 0), SameWater.FULL);
        due("feed", x.feed(0, 1), SameWater.FULL);
        for (int i = 0; i < 8; i++) {
            due("age " + i, x.age(i), 40 + i);
            due("kind " + i, x.told(i, 0), i % 7);
            due("v " + i, x.told(i, 1), i);
            due("slip " + i, x.told(i, 2), i);
        }
        for (int i = 0; i < 16; i++) {
            due("looks " + i, x.of(i, 5), i - 8);
        }
        for (int i = 0; i < 40; i++) {
            due("child of " + i, x.answered(i, 0), i % 8);
            due("asking of " + i, x.answered(i, 1), i % 16);
            due("said by " + i, x.answered(i, 2), i % 3);
            due("age of " + i, x.answered(i, 4), 40 + i % 8);
        }
    }

    /** "all that there is": each call's change by itself goes with undo. */
    private static void imageOfEachThing() {
        SameWater x = some();
        due("image", x.image(), 1);
        x.child(60);
        due("undo a child", x.undo(), 1);
        counts("child", x, 1, 1, 1, 1, 6);
        x.grow(7);
        x.undo();
        due("undo growing", x.age(0), 50);
        x.asking(1, 1, 1, false, 0, 5, 0);
        x.undo();
        counts("asking", x, 1, 1, 1, 1, 6);
        x.answer(0, 0, 2, true);
        x.undo();
        counts("answer", x, 1, 1, 1, 1, 6);
        x.teach(0, 3);
        due("taught", x.keeps(0, 0, 3), 1);
        x.undo();
        due("undo teaching", x.keeps(0, 0, 3), 0);
        due("it was not taught", x.teach(0, 3), 1);
        x.undo();
        x.feed('9', 1);
        x.undo();
        counts("feed", x, 1, 1, 1, 1, 6);
        x.law(0, 0);
        x.undo();
        counts("law", x, 1, 1, 1, 1, 6);
        due("the law is gone", x.told(1, 0), SameWater.NONE);
        x.feed(';', 1);
        due("fault", x.law(0, 0), -17);
        x.undo();
        counts("fault", x, 1, 1, 1, 1, 6);
        x.grow(5);
        due("5 months after it was taught", x.keeps(0, 0, 1), 0);
        x.grow(1);
        due("6 months", x.keeps(0, 0, 1), 1);
    }

    private static void imageOfTheTapesBytes() {
        SameWater x = some();
        x.image();
        due("law", x.law(0, 0), 1);
        Check.write(x, "from 3 99;over");
        x.undo();
        x.feed('2', 1);
        due("the bytes that were, and one", x.law(0, 0), 1);
        due("slip 42", x.told(1, 2), 42);
        due("no from", x.told(1, 13), 84);
        x.undo();
        due("the bytes that were", x.law(0, 0), 1);
        due("slip 4", x.told(1, 2), 4);
    }

    /** "(but THE IMAGE ..)": the later one takes the earlier one's place, and undo leaves it. */
    private static void imageIsNotInTheImage() {
        SameWater x = new SameWater();
        x.child(50);
        due("first", x.image(), 1);
        x.child(60);
        due("second", x.image(), 2);
        x.child(70);
        due("undo", x.undo(), 2);
        due("undo again", x.undo(), 2);
        x.grow(3);
        due("third time", x.undo(), 2);
        due("50", x.age(0), 50);
        due("60", x.age(1), 60);
        x.grow(3);
        due("what is undone and changed is not the image", x.image(), 2);
        x.grow(3);
        x.undo();
        due("53", x.age(0), 53);
    }

    /** "(but .. THE TRACE)". */
    private static void traceIsNotInTheImage() {
        SameWater x = law(WORDED, 2, 0);
        x.act(0, RULES, 1);
        x.image();
        ran(x, "after image", 11, 1);
        x.act(0, ANSWERS, 1);
        x.undo();
        ran(x, "after undo", 41, 3, 2, 11, 1, 11, 1);
        x.act(0, 3, 1);
        x.undo();
        ran(x, "none, after undo");
        SameWater y = new SameWater();
        y.image();
        Check.law(y, ANSWER, 0, "slip 0");
        y.act(0, READS, 1);
        y.undo();
        due("the law is gone", y.count(3), 0);
        ran(y, "of a law that is gone", 2, 1);
    }

    private static void lawsAfterAnUndo() {
        SameWater x = law(ANSWER, 0, 1);
        x.image();
        Check.law(x, EACH, 9, "from 0 30;slip 30;say 0 a>0");
        Check.law(x, EACH, 8, "from 1 31;slip 31;say 2 a>0");
        x.undo();
        due("another as number 2", Check.law(x, LENGTH, 3, "from 3 40"), 2);
        int[] due = {LENGTH, 3, 0, 84, 84, 84, 40};
        int[] what = {0, 1, 2, 10, 11, 12, 13};
        for (int i = 0; i < due.length; i++) {
            due("told " + what[i], x.told(2, what[i]), due[i]);
        }
        due("its acts", x.act(2, RULES, 10), 32);
        x.child(50);
        x.asking(0, 0, 1, false, 0, 1, 0);
        due("it tells", x.tells(2, 0, 0), 1);
        due("none above", x.tells(3, 0, 0), SameWater.NONE);
    }

    /** Children, askings and answers that come in the place of undone ones have nothing of them. */
    private static void othersAfterAnUndo() {
        SameWater x = law(KEPT, 0, 0);
        x.child(90);
        x.image();
        x.child(50);
        x.asking(3, 0, 2, true, 3, 9, 1);
        for (int stuff = 0; stuff < 4; stuff++) {
            x.teach(1, stuff);
        }
        x.answer(1, 0, 2, true);
        x.undo();
        due("another child", x.child(40), 1);
        due("its age", x.age(1), 40);
        due("it was taught nothing", x.spread(0, 1, 0), SameWater.STATE);
        for (int stuff = 0; stuff < 4; stuff++) {
            due("it does not keep " + stuff, x.keeps(0, 1, stuff), 0);
        }
        due("teaching is new", x.teach(1, 2), 1);
        due("and that one alone", x.spread(0, 1, 0), 4);
        due("another asking", x.asking(0, 2, 1, false, 0, 0, 0), 0);
        int[] asking = {0, 2, 1, 0, 0, 0, 0};
        for (int what = 0; what < asking.length; what++) {
            due("of it " + what, x.of(0, what), asking[what]);
        }
        due("another answer", x.answer(0, 0, 1, false), 0);
        int[] answer = {0, 0, 1, 0, 90};
        for (int what = 0; what < answer.length; what++) {
            due("of that " + what, x.answered(0, what), answer[what]);
        }
        due("nobody is fooled", x.fooled(), 0);
    }

    private static void imageTellsHowManyChildren() {
        SameWater x = new SameWater();
        for (int children = 0; children <= 8; children++) {
            due("image of " + children, x.image(), children);
            x.child(50);
            due("undo to " + children, x.undo(), children);
            x.child(50);
        }
    }

    /** "0 CHILDREN, 1 ASKINGS, 2 ANSWERS, 3 LAWS, 4 bytes of THE TAPE, 5 bodies". */
    private static void countsOfWhat() {
        SameWater x = new SameWater();
        counts("new", x, 0, 0, 0, 0, 0, 0);
        for (int what : new int[] {-1, 6, 10, LEAST, GREATEST}) {
            due("count " + what, x.count(what), SameWater.NONE);
        }
        x.child(50);
        counts("child", x, 1, 0, 0, 0, 0, 0);
        x.asking(0, 0, 1, false, 0, 0, 0);
        counts("asking", x, 1, 1, 0, 0, 0, 0);
        x.answer(0, 0, 1, false);
        counts("answer", x, 1, 1, 1, 0, 0, 0);
        Check.write(x, "slip 1");
        counts("tape", x, 1, 1, 1, 0, 6, 0);
        x.law(0, 0);
        counts("law", x, 1, 1, 1, 1, 0, 0);
        x.act(0, 2, 0);
        counts("act", x, 1, 1, 1, 1, 0, 3);
    }
}
