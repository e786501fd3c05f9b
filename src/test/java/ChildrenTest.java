/** Promises 1 to 10: children, askings, answers, teaching, the tape's bytes. */
public final class ChildrenTest {
    private static final Check CHECK = new Check();

    public static void main(String[] args) {
        aNewObject();
        child();
        age();
        grow();
        asking();
        of();
        answer();
        answered();
        teach();
        feed();
        CHECK.end();
    }

    private static void due(String call, long got, long want) {
        CHECK.due(call, got, want);
    }

    /** Promise 1. */
    private static void aNewObject() {
        SameWater x = new SameWater();
        for (int what = 0; what <= 5; what++) {
            due("new count " + what, x.count(what), 0);
        }
        due("new fooled", x.fooled(), 0);
        due("new once", x.once(), 0);
        due("new order", x.order(0, 1), 0);
        due("new moves above", x.moves(0, 0), 0);
        due("new moves below", x.moves(0, 1), 1);
        due("new from", x.from(0, false), -5);
        due("new likeliest", x.likeliest(0), -5);
        due("new undo", x.undo(), SameWater.STATE);
        due("new trace", x.trace(0), SameWater.NONE);
        due("new grow", x.grow(1), 0);
        due("NONE", SameWater.NONE, -1);
        due("BAD", SameWater.BAD, -2);
        due("STATE", SameWater.STATE, -3);
        due("FULL", SameWater.FULL, -4);
        due("NO", SameWater.NO, Long.MIN_VALUE);
    }

    /** Promise 2. */
    private static void child() {
        SameWater x = new SameWater();
        due("child 23", x.child(23), -2);
        due("child 121", x.child(121), -2);
        due("child least", x.child(Integer.MIN_VALUE), -2);
        due("count", x.count(0), 0);
        for (int i = 0; i < 8; i++) {
            due("child " + i, x.child(i == 0 ? 24 : i == 1 ? 120 : 50 + i), i);
        }
        due("child full", x.child(50), -4);
        due("child bad before full", x.child(23), -2);
        due("count full", x.count(0), 8);
    }

    /** Promise 3. */
    private static void age() {
        SameWater x = new SameWater();
        due("age none", x.age(0), -1);
        x.child(24);
        x.child(120);
        due("age 0", x.age(0), 24);
        due("age 1", x.age(1), 120);
        due("age 2", x.age(2), -1);
        due("age -1", x.age(-1), -1);
        due("age least", x.age(Integer.MIN_VALUE), -1);
    }

    /** Promise 4. */
    private static void grow() {
        SameWater x = new SameWater();
        due("grow nobody", x.grow(60), 0);
        x.child(24);
        x.child(118);
        due("grow 0", x.grow(0), -2);
        due("grow 61", x.grow(61), -2);
        due("grow -1", x.grow(-1), -2);
        due("age as before", x.age(0), 24);
        due("grow 1", x.grow(1), 2);
        due("age 25", x.age(0), 25);
        due("age 119", x.age(1), 119);
        due("grow 60", x.grow(60), 2);
        due("age 85", x.age(0), 85);
        due("age 120", x.age(1), 120);
        due("grow again", x.grow(60), 2);
        due("age no more", x.age(0), 120);
    }

    /** Promise 5. */
    private static void asking() {
        SameWater x = new SameWater();
        due("stuff -1", x.asking(-1, 0, 1, false, 0, 0, 0), -1);
        due("stuff 4", x.asking(4, 0, 1, false, 0, 0, 0), -1);
        due("moved -1", x.asking(0, -1, 1, false, 0, 0, 0), -1);
        due("moved 3", x.asking(0, 3, 1, false, 0, 0, 0), -1);
        due("times 0", x.asking(0, 0, 0, false, 0, 0, 0), -2);
        due("times 3", x.asking(0, 0, 3, false, 0, 0, 0), -2);
        due("word -1", x.asking(0, 0, 1, false, -1, 0, 0), -2);
        due("word 4", x.asking(0, 0, 1, false, 4, 0, 0), -2);
        due("looks -10", x.asking(0, 0, 1, false, 0, -10, 0), -2);
        due("looks 10", x.asking(0, 0, 1, false, 0, 10, 0), -2);
        due("truly -2", x.asking(0, 0, 1, false, 0, 0, -2), -2);
        due("truly 2", x.asking(0, 0, 1, false, 0, 0, 2), -2);
        due("none before bad", x.asking(4, 0, 3, false, 0, 0, 0), -1);
        due("none before bad, moved", x.asking(0, 3, 1, false, 9, 0, 0), -1);
        due("count", x.count(1), 0);
        for (int i = 0; i < 16; i++) {
            due("asking " + i, x.asking(i % 4, i % 3, 1 + i % 2, i > 8, i % 4, i - 8, i % 3 - 1), i);
        }
        due("asking full", x.asking(0, 0, 1, false, 0, 0, 0), -4);
        due("bad before full", x.asking(0, 0, 3, false, 0, 0, 0), -2);
        due("none before full", x.asking(0, 3, 1, false, 0, 0, 0), -1);
        due("count full", x.count(1), 16);
    }

    /** Promise 6. */
    private static void of() {
        SameWater x = new SameWater();
        due("of none", x.of(0, 0), -1001);
        x.asking(3, 2, 2, true, 1, -9, -1);
        x.asking(1, 1, 1, false, 3, 9, 1);
        int[][] due = {{3, 2, 2, 1, 1, -9, -1}, {1, 1, 1, 0, 3, 9, 1}};
        for (int asking = 0; asking < 2; asking++) {
            for (int what = 0; what < 7; what++) {
                due("of " + asking + " " + what, x.of(asking, what), due[asking][what]);
            }
        }
        due("of what 7", x.of(0, 7), -1001);
        due("of what -1", x.of(0, -1), -1001);
        due("of asking 2", x.of(2, 0), -1001);
        due("of asking -1", x.of(-1, 0), -1001);
        due("of greatest", x.of(Integer.MAX_VALUE, Integer.MAX_VALUE), -1001);
    }

    /** Promise 7. */
    private static void answer() {
        SameWater x = new SameWater();
        due("nobody, nothing", x.answer(0, 0, 1, false), -1);
        x.child(50);
        due("no asking", x.answer(0, 0, 1, false), -1);
        x.asking(0, 0, 1, false, 0, 1, 0);
        due("no child", x.answer(1, 0, 1, false), -1);
        due("child -1", x.answer(-1, 0, 1, false), -1);
        due("asking 1", x.answer(0, 1, 1, false), -1);
        due("asking -1", x.answer(0, -1, 1, false), -1);
        due("said -1", x.answer(0, 0, -1, false), -2);
        due("said 3", x.answer(0, 0, 3, false), -2);
        due("none before bad", x.answer(0, 1, 3, false), -1);
        due("count", x.count(2), 0);
        for (int i = 0; i < 40; i++) {
            due("answer " + i, x.answer(0, 0, i % 3, i % 2 == 0), i);
        }
        due("full", x.answer(0, 0, 1, false), -4);
        due("bad before full", x.answer(0, 0, 3, false), -2);
        due("none before full", x.answer(1, 0, 1, false), -1);
        due("count full", x.count(2), 40);
    }

    /** Promise 8. */
    private static void answered() {
        SameWater x = new SameWater();
        due("answered none", x.answered(0, 0), -1);
        x.child(50);
        x.child(70);
        x.asking(0, 0, 1, false, 0, 1, 0);
        x.asking(1, 0, 1, false, 0, 1, 0);
        x.asking(2, 0, 1, false, 0, 1, 0);
        x.answer(1, 2, 0, true);
        x.grow(5);
        x.answer(0, 1, 2, false);
        x.grow(60);
        int[][] due = {{1, 2, 0, 1, 70}, {0, 1, 2, 0, 55}};
        for (int answer = 0; answer < 2; answer++) {
            for (int what = 0; what < 5; what++) {
                due("answered " + answer + " " + what, x.answered(answer, what), due[answer][what]);
            }
        }
        due("answered what 5", x.answered(0, 5), -1);
        due("answered what -1", x.answered(0, -1), -1);
        due("answered 2", x.answered(2, 0), -1);
        due("answered -1", x.answered(-1, 0), -1);
    }

    /** Promise 9. */
    private static void teach() {
        SameWater x = new SameWater();
        due("teach nobody", x.teach(0, 0), -1);
        x.child(50);
        due("stuff 4", x.teach(0, 4), -1);
        due("stuff -1", x.teach(0, -1), -1);
        due("child 1", x.teach(1, 0), -1);
        due("teach", x.teach(0, 3), 1);
        due("teach again", x.teach(0, 3), 0);
        due("teach another", x.teach(0, 0), 1);
        // The earlier age holds: clay goes over to counters 6 months after 50, not after 55.
        Check.law(x, 2, 0, "over 1 2 6");
        x.teach(0, 1);
        x.grow(5);
        due("teach later", x.teach(0, 1), 0);
        x.grow(1);
        due("earlier age holds", x.keeps(0, 0, 2), 1);
    }

    /** Promise 10. */
    private static void feed() {
        SameWater x = new SameWater();
        due("n 0", x.feed(1, 0), -2);
        due("n 9", x.feed(1, 9), -2);
        due("n -1", x.feed(1, -1), -2);
        due("count", x.count(4), 0);
        // Only the lowest bytes, the highest of them first: "slip 7".
        due("6 bytes", x.feed(0x7878736c69702037L, 6), 6);
        due("read", x.law(0, 0), 0);
        due("slip", x.told(0, 2), 7);
        for (int i = 1; i <= 14; i++) {
            due("8 bytes", x.feed(0, 8), 8 * i);
        }
        due("7 bytes", x.feed(0, 7), 119);
        due("2 too many", x.feed(0, 2), -4);
        due("bad before full", x.feed(0, 9), -2);
        due("as before", x.count(4), 119);
        due("one more", x.feed(-1, 1), 120);
        due("full", x.feed(0, 1), -4);
        due("count full", x.count(4), 120);
    }
}
