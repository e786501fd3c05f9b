/** Promises 29 to 34: acts and their trace, kinds, the image, counts. */
public final class ActsTest {
    private static final Check CHECK = new Check();

    public static void main(String[] args) {
        act();
        trace();
        as();
        imageAndUndo();
        undoKeepsTheTrace();
        count();
        CHECK.end();
    }

    private static void due(String call, long got, long want) {
        CHECK.due(call, got, want);
    }

    /** Laws 0 .. 6 of kinds 6 .. 0, v of 3. */
    private static SameWater laws() {
        SameWater x = new SameWater();
        for (int law = 0; law < 7; law++) {
            Check.law(x, 6 - law, 3, "slip 0");
        }
        return x;
    }

    private static void act(SameWater x, int law, int act, int arg, int want, int... bodies) {
        String call = "act(" + law + ", " + act + ", " + arg + ")";
        due(call, x.act(law, act, arg), want);
        due(call + " ran", x.count(5), bodies.length);
        for (int i = 0; i < bodies.length; i++) {
            due(call + " body " + i, x.trace(i), bodies[i]);
        }
        due(call + " no more", x.trace(bodies.length), -1);
    }

    /** Promises 29 and 30. */
    private static void act() {
        SameWater x = laws();
        // ANSWER is law 6: x + 6; that less 3; that twice.
        act(x, 6, 0, 10, 16, 1);
        act(x, 6, 1, 10, 13, 2, 1);
        act(x, 6, 2, 10, 26, 3, 2, 1);
        // LENGTH, law 5: 3 x + 5.
        act(x, 5, 0, 10, 35, 11, 1);
        act(x, 5, 1, 10, 32, 2, 11, 1);
        act(x, 5, 2, 10, 64, 3, 2, 11, 1);
        // KEPT, law 4: reads the other sign.
        act(x, 4, 0, 10, 14, 1);
        act(x, 4, 1, 10, -11, 21, 2, 1);
        act(x, 4, 2, 10, -22, 3, 21, 2, 1);
        // AGAIN, law 3.
        act(x, 3, 0, 10, 13, 1);
        act(x, 3, 1, 10, -10, 21, 2, 1);
        act(x, 3, 2, 10, -20 ^ 7, 31, 3, 21, 2, 1);
        // WORDED, law 2: of x - 1, and rules(2) = 8 with it.
        act(x, 2, 0, 10, 32, 11, 1);
        act(x, 2, 1, 10, 29, 2, 11, 1);
        act(x, 2, 2, 10, 2 * (9 * 3 + 2 - 3) + 8, 41, 3, 2, 11, 1, 11, 1);
        // WANTING, law 1: rules with i.
        act(x, 1, 0, 10, 11 ^ 1, 51, 1);
        act(x, 1, 1, 10, -((11 ^ 1) - 3), 21, 2, 51, 1);
        act(x, 1, 2, 10, -2 * ((11 ^ 1) - 3), 3, 21, 2, 51, 1);
        // EACH, law 0.
        act(x, 0, 0, 10, 10, 1);
        act(x, 0, 1, 10, -7 + 3, 61, 21, 2, 1);
        act(x, 0, 2, 10, -8 ^ 7, 31, 3, 61, 21, 2, 1);
        act(x, 6, 0, Integer.MAX_VALUE, Integer.MIN_VALUE + 5, 1);
        act(x, 5, 0, Integer.MAX_VALUE, Integer.MAX_VALUE - 2 + 5, 11, 1);
        act(x, 6, 2, 1 << 30, (1 << 31) + 6, 3, 2, 1);
        act(x, 4, 1, Integer.MIN_VALUE - 1, Integer.MIN_VALUE, 21, 2, 1);
        for (int[] wrong : new int[][] {{7, 0}, {-1, 0}, {0, 3}, {0, -1}, {Integer.MAX_VALUE, Integer.MIN_VALUE}}) {
            act(x, 6, 2, 10, 26, 3, 2, 1);
            act(x, wrong[0], wrong[1], 5, 0);
        }
    }

    /** Promise 30. */
    private static void trace() {
        SameWater x = laws();
        due("no act yet", x.trace(0), -1);
        due("none ran yet", x.count(5), 0);
        x.act(2, 2, 1);
        due("last", x.trace(6), 1);
        due("7", x.trace(7), -1);
        due("-1", x.trace(-1), -1);
        due("20", x.trace(20), -1);
        due("greatest", x.trace(Integer.MAX_VALUE), -1);
        due("least", x.trace(Integer.MIN_VALUE), -1);
        x.act(6, 0, 1);
        due("of the latest alone", x.trace(1), -1);
    }

    /** Promise 31. */
    private static void as() {
        SameWater x = new SameWater();
        due("no law", x.as(0, 0), -1);
        for (int kind = 0; kind < 7; kind++) {
            Check.law(x, kind, kind + 2, "slip 0");
        }
        String[] under = {"0", "01", "02", "023", "014", "025", "0236"};
        for (int law = 0; law < 7; law++) {
            for (int k = 0; k < 7; k++) {
                boolean is = under[law].indexOf('0' + k) >= 0;
                due("as " + law + " " + k, x.as(law, k), is ? law + 2 : -6);
            }
        }
        due("k 7", x.as(0, 7), -1);
        due("k -1", x.as(0, -1), -1);
        due("law 7", x.as(7, 0), -1);
        due("law -1", x.as(-1, 0), -1);
    }

    /** Promises 32 and 33. */
    private static void imageAndUndo() {
        SameWater x = new SameWater();
        due("no image", x.undo(), -3);
        due("image of nobody", x.image(), 0);
        x.child(50);
        x.asking(0, 1, 1, false, 0, 5, 0);
        x.answer(0, 0, 1, false);
        Check.law(x, 2, 0, "over 0 1 6;slip 9");
        x.teach(0, 0);
        Check.write(x, "slip ");
        due("image", x.image(), 1);
        x.grow(9);
        x.child(60);
        x.asking(1, 1, 1, false, 0, 5, 0);
        x.answer(0, 1, 1, false);
        x.teach(0, 2);
        Check.write(x, "4");
        due("law", x.law(3, 7), 1);
        Check.law(x, 5, 7, "say 0 a>0");
        due("undo", x.undo(), 1);
        due("children", x.count(0), 1);
        due("askings", x.count(1), 1);
        due("answers", x.count(2), 1);
        due("laws", x.count(3), 1);
        due("tape", x.count(4), 5);
        due("age", x.age(0), 50);
        due("no child 1", x.age(1), -1);
        due("no asking 1", x.of(1, 0), -1001);
        due("no answer 1", x.answered(1, 0), -1);
        due("no law 1", x.told(1, 0), -1);
        due("taught then", x.teach(0, 0), 0);
        due("not taught later", x.teach(0, 2), 1);
        x.grow(6);
        due("over as taught then", x.keeps(0, 0, 1), 1);
        Check.write(x, "33");
        due("the tape's bytes", x.law(1, 1), 1);
        due("slip", x.told(1, 2), 33);
        due("undo again", x.undo(), 1);
        due("age again", x.age(0), 50);
        due("tape again", x.count(4), 5);
        due("law again", x.told(0, 2), 9);
        due("not taught again", x.teach(0, 2), 1);
        due("a later image", x.image(), 1);
        x.child(24);
        x.undo();
        due("taught in it", x.teach(0, 2), 0);
    }

    private static void undoKeepsTheTrace() {
        SameWater x = laws();
        x.image();
        x.act(6, 2, 1);
        x.undo();
        due("ran", x.count(5), 3);
        due("trace", x.trace(2), 1);
        x.image();
        due("ran after an image", x.count(5), 3);
    }

    /** Promise 34. */
    private static void count() {
        SameWater x = new SameWater();
        x.child(50);
        x.child(50);
        x.child(50);
        x.asking(0, 0, 1, false, 0, 0, 0);
        x.asking(0, 0, 1, false, 0, 0, 0);
        x.answer(0, 0, 1, false);
        x.answer(0, 0, 1, false);
        x.answer(0, 0, 1, false);
        x.answer(0, 0, 1, false);
        Check.law(x, 4, 0, "slip 0");
        x.feed(0, 6);
        x.act(0, 2, 1);
        int[] due = {3, 2, 4, 1, 6, 7};
        for (int what = 0; what < 6; what++) {
            due("count " + what, x.count(what), due[what]);
        }
        due("count 6", x.count(6), -1);
        due("count -1", x.count(-1), -1);
    }
}
