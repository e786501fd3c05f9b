/**
 * Section 4: each refusal by itself, which of two comes first where both hold, and that a refused call has changed
 * nothing: it is made on one of two objects that were made alike, which must look alike afterwards.
 */
public final class RefusalsTest {
    private static final Check CHECK = new Check();
    private static final int NONE = SameWater.NONE, BAD = SameWater.BAD, STATE = SameWater.STATE, FULL = SameWater.FULL;
    private static final long NO = SameWater.NO;
    private static final int LEAST = Integer.MIN_VALUE, GREATEST = Integer.MAX_VALUE;

    /** None of what is numbered from 0 on, whatever there is. */
    private static final int[] NEVER = {-1, -2, 40, LEAST, GREATEST};

    private interface Making {
        SameWater make();
    }

    private interface Call {
        long on(SameWater x);
    }

    public static void main(String[] args) {
        refused(SameWater::new, "a new object");
        refused(RefusalsTest::some, "some of all");
        onNothing();
        children();
        askings();
        answers();
        teaching();
        tapes();
        laws();
        refusedAheadOfAFault();
        odds();
        showing();
        spreading();
        acts();
        images();
        CHECK.end();
    }

    private static void refused(Making making, String call, long want, Call made) {
        SameWater x = making.make();
        CHECK.due(call, made.on(x), want);
        CHECK.alike("after " + call, Sight.of(x), Sight.of(making.make()));
    }

    // ---- objects, each made anew, the same each time

    /** Two children, three askings, four answers, two laws, a half law on the tape, an image of less, a trace. */
    private static SameWater some() {
        SameWater x = new SameWater();
        x.child(50);
        x.asking(0, 0, 2, false, 1, 5, 0);
        Check.law(x, 3, 2, "from 0 52;over 1 2 6;slip 10");
        x.teach(0, 1);
        Check.write(x, "from 0 ");
        x.image();
        x.child(70);
        x.grow(2);
        x.teach(0, 3);
        x.asking(1, 1, 1, true, 0, -3, 0);
        x.asking(2, 2, 1, false, 2, 4, 1);
        x.answer(0, 0, 2, false);
        x.answer(0, 1, 1, true);
        x.answer(1, 2, 1, false);
        x.answer(1, 0, 1, true);
        Check.write(x, "77");
        x.law(1, 1);
        Check.write(x, "slip 3");
        x.act(0, 2, 5);
        return x;
    }

    private static SameWater childrenFull() {
        SameWater x = some();
        for (int i = 2; i < 8; i++) {
            x.child(30 + i);
        }
        return x;
    }

    private static SameWater askingsFull() {
        SameWater x = some();
        for (int i = 3; i < 16; i++) {
            x.asking(i % 4, i % 3, 1, false, 0, i - 8, 0);
        }
        return x;
    }

    private static SameWater answersFull() {
        SameWater x = some();
        for (int i = 4; i < 40; i++) {
            x.answer(i % 2, i % 3, i % 3, false);
        }
        return x;
    }

    private static SameWater lawsFull() {
        SameWater x = some();
        x.law(0, 0);
        for (int i = 3; i < 8; i++) {
            Check.law(x, i % 7, i, "slip 20");
        }
        Check.write(x, "slip 3");
        return x;
    }

    /** The tape holds a text of 120 bytes that is a law. */
    private static SameWater tapeFull() {
        SameWater x = some();
        Check.write(x, ";slip 10;from 0 99;say 0 " + "a=1|".repeat(20) + "!!!!a=100");
        return x;
    }

    /** Eight laws, no image, and this on the tape. */
    private static SameWater onlyLaws(String text) {
        SameWater x = new SameWater();
        for (int i = 0; i < 8; i++) {
            Check.law(x, i % 7, i, "slip 2" + i);
        }
        Check.write(x, text);
        return x;
    }

    // ---- each refusal by itself, on an object with nothing and on one with some of all

    private static void refused(Making making, String name) {
        int[] notStuffs = {-1, 4, LEAST, GREATEST};
        for (int age : new int[] {23, 121, LEAST, GREATEST}) {
            refused(making, name + ": child " + age, BAD, x -> x.child(age));
        }
        for (int n : new int[] {0, 61, -1, LEAST, GREATEST}) {
            refused(making, name + ": grow " + n, BAD, x -> x.grow(n));
        }
        for (int stuff : notStuffs) {
            refused(making, name + ": asking of stuff " + stuff, NONE, x -> x.asking(stuff, 0, 1, false, 0, 0, 0));
            refused(making, name + ": teach stuff " + stuff, NONE, x -> x.teach(0, stuff));
            refused(making, name + ": keeps stuff " + stuff, NONE, x -> x.keeps(0, 0, stuff));
            refused(making, name + ": order of " + stuff, NONE, x -> x.order(stuff, 0));
            refused(making, name + ": order and " + stuff, NONE, x -> x.order(0, stuff));
            refused(making, name + ": from of " + stuff, NONE, x -> x.from(stuff, false));
        }
        for (int moved : new int[] {-1, 3, LEAST, GREATEST}) {
            refused(making, name + ": asking moved " + moved, NONE, x -> x.asking(0, moved, 1, false, 0, 0, 0));
        }
        for (int times : new int[] {0, 3, LEAST, GREATEST}) {
            refused(making, name + ": asking times " + times, BAD, x -> x.asking(0, 0, times, false, 0, 0, 0));
        }
        for (int word : new int[] {-1, 4, LEAST, GREATEST}) {
            refused(making, name + ": asking word " + word, BAD, x -> x.asking(0, 0, 1, false, word, 0, 0));
        }
        for (int looks : new int[] {-10, 10, LEAST, GREATEST}) {
            refused(making, name + ": asking looks " + looks, BAD, x -> x.asking(0, 0, 1, false, 0, looks, 0));
        }
        for (int truly : new int[] {-2, 2, LEAST, GREATEST}) {
            refused(making, name + ": asking truly " + truly, BAD, x -> x.asking(0, 0, 1, false, 0, 0, truly));
        }
        for (int n : new int[] {0, 9, -1, LEAST, GREATEST}) {
            refused(making, name + ": feed " + n, BAD, x -> x.feed('1', n));
        }
        for (int kind : new int[] {-1, 7, LEAST, GREATEST}) {
            refused(making, name + ": law of kind " + kind, NONE, x -> x.law(kind, 0));
            refused(making, name + ": as " + kind, NONE, x -> x.as(0, kind));
        }
        for (int v : new int[] {-1, 10, LEAST, GREATEST}) {
            refused(making, name + ": law of v " + v, BAD, x -> x.law(0, v));
        }
        for (int what : new int[] {-1, 2, LEAST, GREATEST}) {
            refused(making, name + ": moves what " + what, NO, x -> x.moves(what, 0));
            refused(making, name + ": moves part " + what, NO, x -> x.moves(0, what));
            refused(making, name + ": chance part " + what, NO, x -> x.chance(0, 0, what));
            refused(making, name + ": odds part " + what, NO, x -> x.odds(0, 0, what));
        }
        for (int what : new int[] {-1, 6, LEAST, GREATEST}) {
            refused(making, name + ": count " + what, NONE, x -> x.count(what));
        }
        for (int none : NEVER) {
            noneOf(making, name + ": number " + none, none);
        }
        for (int set : new int[] {-1, 1 << 30, 1 << 31, 511, 1 << 4, 1 << 29}) {
            refused(making, name + ": odds of " + set, NO, x -> x.odds(0, set, 0));
            refused(making, name + ": likeliest of " + set, BAD, x -> x.likeliest(set));
        }
    }

    /** A number that no CHILD, ASKING, ANSWER, LAW, what, i has. */
    private static void noneOf(Making making, String name, int none) {
        refused(making, name + ", age", NONE, x -> x.age(none));
        refused(making, name + ", of", -1001, x -> x.of(none, 0));
        refused(making, name + ", of what", -1001, x -> x.of(0, none));
        refused(making, name + ", answer of child", NONE, x -> x.answer(none, 0, 1, false));
        refused(making, name + ", answer to asking", NONE, x -> x.answer(0, none, 1, false));
        refused(making, name + ", answered", NONE, x -> x.answered(none, 0));
        refused(making, name + ", answered what", NONE, x -> x.answered(0, none));
        refused(making, name + ", teach", NONE, x -> x.teach(none, 0));
        refused(making, name + ", told", NONE, x -> x.told(none, 0));
        refused(making, name + ", told what", NONE, x -> x.told(0, none));
        refused(making, name + ", keeps by law", NONE, x -> x.keeps(none, 0, 0));
        refused(making, name + ", keeps of child", NONE, x -> x.keeps(0, none, 0));
        refused(making, name + ", tells by law", NONE, x -> x.tells(none, 0, 0));
        refused(making, name + ", tells of child", NONE, x -> x.tells(0, none, 0));
        refused(making, name + ", tells of asking", NONE, x -> x.tells(0, 0, none));
        refused(making, name + ", chance by law", NO, x -> x.chance(none, 0, 0));
        refused(making, name + ", chance of answer", NO, x -> x.chance(0, none, 0));
        refused(making, name + ", odds", NO, x -> x.odds(none, 0, 0));
        refused(making, name + ", cannot", NONE, x -> x.cannot(none));
        refused(making, name + ", right", NONE, x -> x.right(none));
        refused(making, name + ", rule", NONE, x -> x.rule(none));
        refused(making, name + ", parts", NONE, x -> x.parts(none, 0));
        refused(making, name + ", parts with", NONE, x -> x.parts(0, none));
        refused(making, name + ", next", NONE, x -> x.next(none));
        refused(making, name + ", spread by law", NONE, x -> x.spread(none, 0, 0));
        refused(making, name + ", spread of child", NONE, x -> x.spread(0, none, 0));
        refused(making, name + ", trace", NONE, x -> x.trace(none));
        refused(making, name + ", as", NONE, x -> x.as(none, 0));
    }

    /** With nothing there is no number 0 either. */
    private static void onNothing() {
        noneOf(SameWater::new, "nothing: number 0", 0);
        refused(SameWater::new, "nothing: undo", STATE, SameWater::undo);
        refused(SameWater::new, "nothing: likeliest", BAD, x -> x.likeliest(1));
    }

    // ---- the first number that is none; FULL; of two refusals the first one told

    private static void children() {
        refused(RefusalsTest::some, "age 2", NONE, x -> x.age(2));
        refused(RefusalsTest::childrenFull, "age 8", NONE, x -> x.age(8));
        refused(RefusalsTest::childrenFull, "child, full", FULL, x -> x.child(24));
        refused(RefusalsTest::childrenFull, "child 23, full", BAD, x -> x.child(23));
        refused(RefusalsTest::childrenFull, "child 121, full", BAD, x -> x.child(121));
    }

    private static void askings() {
        refused(RefusalsTest::some, "of 3", -1001, x -> x.of(3, 0));
        refused(RefusalsTest::some, "of what 7", -1001, x -> x.of(0, 7));
        refused(RefusalsTest::askingsFull, "of 16", -1001, x -> x.of(16, 0));
        refused(RefusalsTest::askingsFull, "asking, full", FULL, x -> x.asking(3, 2, 2, true, 3, 9, 1));
        int[][] none = {{-1, 0}, {4, 0}, {0, -1}, {0, 3}, {4, 3}};
        int[][] bad = {{0, 0, 0, 0}, {3, 0, 0, 0}, {1, -1, 0, 0}, {1, 4, 0, 0}, {1, 0, -10, 0}, {1, 0, 10, 0}, {1, 0, 0, -2},
            {1, 0, 0, 2}, {3, 4, 10, 2}};
        for (Making making : new Making[] {RefusalsTest::some, RefusalsTest::askingsFull}) {
            for (int[] n : none) {
                refused(making, "no such", NONE, x -> x.asking(n[0], n[1], 1, false, 0, 0, 0));
                for (int[] b : bad) {
                    refused(making, "no such, and bad", NONE, x -> x.asking(n[0], n[1], b[0], false, b[1], b[2], b[3]));
                }
            }
            for (int[] b : bad) {
                refused(making, "bad", BAD, x -> x.asking(3, 2, b[0], true, b[1], b[2], b[3]));
            }
        }
    }

    private static void answers() {
        refused(RefusalsTest::some, "answered 4", NONE, x -> x.answered(4, 0));
        refused(RefusalsTest::some, "answered what 5", NONE, x -> x.answered(0, 5));
        refused(RefusalsTest::answersFull, "answered 40", NONE, x -> x.answered(40, 0));
        refused(RefusalsTest::answersFull, "answer, full", FULL, x -> x.answer(1, 2, 1, true));
        for (Making making : new Making[] {RefusalsTest::some, RefusalsTest::answersFull}) {
            refused(making, "child 2", NONE, x -> x.answer(2, 0, 1, false));
            refused(making, "asking 3", NONE, x -> x.answer(0, 3, 1, false));
            refused(making, "child 2, asking 3", NONE, x -> x.answer(2, 3, 1, false));
            for (int said : new int[] {-1, 3, LEAST, GREATEST}) {
                refused(making, "said " + said, BAD, x -> x.answer(1, 2, said, false));
                refused(making, "child 2, said " + said, NONE, x -> x.answer(2, 0, said, false));
                refused(making, "asking 3, said " + said, NONE, x -> x.answer(0, 3, said, false));
            }
        }
    }

    /** A child that was taught the stuff before: 0, and nothing is changed; no such one is NONE all the same. */
    private static void teaching() {
        refused(RefusalsTest::some, "teach again", 0, x -> x.teach(0, 1));
        refused(RefusalsTest::some, "teach again, of now", 0, x -> x.teach(0, 3));
        refused(RefusalsTest::some, "teach child 2", NONE, x -> x.teach(2, 1));
        refused(RefusalsTest::some, "teach stuff 4", NONE, x -> x.teach(0, 4));
        refused(RefusalsTest::some, "teach neither", NONE, x -> x.teach(2, 4));
    }

    private static void tapes() {
        CHECK.due("the full tape", tapeFull().count(4), 120);
        CHECK.due("is a law", tapeFull().law(0, 0), 2);
        for (int n = 1; n <= 8; n++) {
            int bytes = n;
            refused(RefusalsTest::tapeFull, "feed, full, " + n, FULL, x -> x.feed('1', bytes));
        }
        for (int n : new int[] {0, 9, -1, LEAST, GREATEST}) {
            refused(RefusalsTest::tapeFull, "full, feed " + n, BAD, x -> x.feed('1', n));
        }
    }

    /** "FULL (THE TAPE stays with all three)". */
    private static void laws() {
        for (Making making : new Making[] {RefusalsTest::some, RefusalsTest::lawsFull, RefusalsTest::tapeFull}) {
            for (int kind : new int[] {-1, 7}) {
                refused(making, "kind " + kind, NONE, x -> x.law(kind, 0));
                refused(making, "kind " + kind + ", v 10", NONE, x -> x.law(kind, 10));
                refused(making, "kind " + kind + ", v -1", NONE, x -> x.law(kind, -1));
            }
            refused(making, "v 10", BAD, x -> x.law(6, 10));
            refused(making, "v -1", BAD, x -> x.law(6, -1));
        }
        refused(RefusalsTest::lawsFull, "law, full", FULL, x -> x.law(6, 9));
        refused(RefusalsTest::lawsFull, "told 8", NONE, x -> x.told(8, 0));
        refused(RefusalsTest::some, "told 2", NONE, x -> x.told(2, 0));
        for (int what : new int[] {3, 9, 14}) {
            refused(RefusalsTest::some, "told what " + what, NONE, x -> x.told(0, what));
        }
        refused(RefusalsTest::some, "keeps by law 2", NONE, x -> x.keeps(2, 0, 0));
        refused(RefusalsTest::some, "keeps of child 2", NONE, x -> x.keeps(0, 2, 0));
        refused(RefusalsTest::some, "tells by law 2", NONE, x -> x.tells(2, 0, 0));
        refused(RefusalsTest::some, "tells of child 2", NONE, x -> x.tells(0, 2, 0));
        refused(RefusalsTest::some, "tells of asking 3", NONE, x -> x.tells(0, 0, 3));
    }

    /** A tape with a FAULT, or an empty one, is not read as long as something else is refused. */
    private static void refusedAheadOfAFault() {
        for (String text : new String[] {"", "x", "slip 1;"}) {
            refused(() -> onlyLaws(text), "full, tape " + text, FULL, x -> x.law(0, 0));
            refused(() -> onlyLaws(text), "kind 7, full, tape " + text, NONE, x -> x.law(7, 0));
            refused(() -> onlyLaws(text), "v 10, full, tape " + text, BAD, x -> x.law(0, 10));
        }
        SameWater x = new SameWater();
        Check.write(x, "slip");
        CHECK.due("v 10 ahead of a fault", x.law(0, 10), BAD);
        CHECK.due("kind 7 ahead of a fault", x.law(7, 0), NONE);
        CHECK.due("the fault", x.law(0, 0), -14);
    }

    private static void odds() {
        refused(RefusalsTest::some, "chance by law 2", NO, x -> x.chance(2, 0, 0));
        refused(RefusalsTest::some, "chance of answer 4", NO, x -> x.chance(0, 4, 0));
        refused(RefusalsTest::some, "chance, part 2", NO, x -> x.chance(0, 0, 2));
        refused(RefusalsTest::some, "odds by law 2", NO, x -> x.odds(2, 1, 0));
        refused(RefusalsTest::some, "odds of answer 4", NO, x -> x.odds(0, 17, 1));
        refused(RefusalsTest::some, "odds, part 2", NO, x -> x.odds(0, 1, 2));
        refused(RefusalsTest::answersFull, "odds of 9", NO, x -> x.odds(0, 511, 0));
        refused(RefusalsTest::answersFull, "odds of the 31st", NO, x -> x.odds(0, 1 << 30, 0));
        refused(RefusalsTest::answersFull, "likeliest of 9", BAD, x -> x.likeliest(511));
        refused(RefusalsTest::answersFull, "likeliest of the 31st", BAD, x -> x.likeliest(1 << 30));
        refused(RefusalsTest::answersFull, "likeliest of the 32nd", BAD, x -> x.likeliest(1 << 31));
        refused(RefusalsTest::some, "likeliest of answer 4", BAD, x -> x.likeliest(16));
        refused(RefusalsTest::some, "cannot of law 2", NONE, x -> x.cannot(2));
        refused(RefusalsTest::some, "right of law 2", NONE, x -> x.right(2));
        refused(RefusalsTest::some, "rule of child 2", NONE, x -> x.rule(2));
        refused(RefusalsTest::some, "parts of law 2", NONE, x -> x.parts(2, 0));
        refused(RefusalsTest::some, "parts with law 2", NONE, x -> x.parts(0, 2));
        refused(RefusalsTest::some, "next of child 2", NONE, x -> x.next(2));
        refused(RefusalsTest::childrenFull, "rule of child 8", NONE, x -> x.rule(8));
        refused(RefusalsTest::childrenFull, "rule without answers", -5, x -> x.rule(7));
    }

    private static void showing() {
        for (int stuff = 0; stuff < 4; stuff++) {
            int same = stuff;
            refused(RefusalsTest::some, "order of one", BAD, x -> x.order(same, same));
        }
        for (int none : new int[] {-1, 4, LEAST, GREATEST}) {
            refused(RefusalsTest::some, "order of one that is none", NONE, x -> x.order(none, none));
            refused(RefusalsTest::some, "order of none", NONE, x -> x.order(none, 3));
            refused(RefusalsTest::some, "order with none", NONE, x -> x.order(3, none));
            refused(RefusalsTest::some, "from of none, with a why", NONE, x -> x.from(none, true));
        }
    }

    /** "NONE; BAD; STATE": child 0 was taught, child 1 was not. */
    private static void spreading() {
        refused(RefusalsTest::some, "taught nothing", STATE, x -> x.spread(0, 1, 0));
        refused(RefusalsTest::some, "taught nothing, 99", STATE, x -> x.spread(0, 1, 99));
        for (int n : new int[] {-1, 100, LEAST, GREATEST}) {
            refused(RefusalsTest::some, "taught, n " + n, BAD, x -> x.spread(0, 0, n));
            refused(RefusalsTest::some, "taught nothing, n " + n, BAD, x -> x.spread(0, 1, n));
            refused(RefusalsTest::some, "law 2, n " + n, NONE, x -> x.spread(2, 0, n));
            refused(RefusalsTest::some, "child 2, n " + n, NONE, x -> x.spread(0, 2, n));
            refused(RefusalsTest::some, "law 2, child 1, n " + n, NONE, x -> x.spread(2, 1, n));
        }
        refused(RefusalsTest::some, "law 2, taught nothing", NONE, x -> x.spread(2, 1, 0));
        refused(RefusalsTest::some, "law 2, taught", NONE, x -> x.spread(2, 0, 0));
        refused(RefusalsTest::some, "child 2", NONE, x -> x.spread(0, 2, 0));
    }

    private static void acts() {
        refused(RefusalsTest::some, "trace beyond what ran", NONE, x -> x.trace(5));
        refused(RefusalsTest::some, "as of law 2", NONE, x -> x.as(2, 0));
        refused(RefusalsTest::some, "as 7", NONE, x -> x.as(0, 7));
        refused(RefusalsTest::some, "as of law 2 and 7", NONE, x -> x.as(2, 7));
        refused(RefusalsTest::some, "as of another kind", -6, x -> x.as(0, 1));
        // No such act leaves no trace, and nothing else is changed.
        Making without = () -> {
            SameWater x = some();
            x.act(0, 3, 0);
            return x;
        };
        refused(without, "act 3", 0, x -> x.act(0, 3, 5));
        refused(without, "act of law 2", 0, x -> x.act(2, 0, 5));
    }

    private static void images() {
        Making unimaged = () -> {
            SameWater x = onlyLaws("slip 4");
            x.child(50);
            x.teach(0, 0);
            x.act(2, 2, 2);
            return x;
        };
        refused(unimaged, "undo without an image", STATE, SameWater::undo);
        refused(unimaged, "twice", STATE, x -> x.undo() == STATE ? x.undo() : 0);
    }
}
