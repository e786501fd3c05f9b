/** Promises 23 to 28: what answers show. */
public final class ShowTest {
    private static final Check CHECK = new Check();

    public static void main(String[] args) {
        twice();
        bear();
        fooled();
        once();
        order();
        from();
        spread();
        CHECK.end();
    }

    private static void due(String call, long got, long want) {
        CHECK.due(call, got, want);
    }

    private static void moves(SameWater x, int what, long above, long below) {
        due("moves " + what + " above", x.moves(what, 0), above);
        due("moves " + what + " below", x.moves(what, 1), below);
    }

    private static void answer(SameWater x, int asking, String said) {
        for (int i = 0; i < said.length(); i++) {
            x.answer(0, asking, said.charAt(i) - '0', false);
        }
    }

    /** Promise 23: TWICE. */
    private static void twice() {
        SameWater x = new SameWater();
        x.child(50);
        int man2 = x.asking(0, 0, 2, false, 0, 1, 0);
        int man1 = x.asking(1, 0, 1, false, 0, 1, 0);
        int bear2 = x.asking(0, 1, 2, false, 0, 1, 0);
        int nobody1 = x.asking(0, 2, 1, false, 0, 1, 0);
        int changed2 = x.asking(0, 0, 2, false, 0, 1, 1);
        int changed1 = x.asking(0, 0, 1, false, 0, 1, -1);
        moves(x, 0, 0, 1);
        answer(x, changed2, "11");
        answer(x, changed1, "11");
        answer(x, bear2, "1");
        answer(x, nobody1, "1");
        moves(x, 0, 0, 1);
        answer(x, man1, "120");
        moves(x, 0, -1, 3);
        answer(x, man2, "1102");
        moves(x, 0, 1, 6);
        answer(x, man1, "111");
        moves(x, 0, -1, 6);
        answer(x, man2, "11");
        moves(x, 0, 0, 1);
        SameWater y = new SameWater();
        y.child(50);
        y.asking(0, 0, 1, false, 0, 1, 0);
        answer(y, 0, "1");
        moves(y, 0, -1, 1);
        moves(y, 1, -1, 1);
        due("what 2", x.moves(2, 0), SameWater.NO);
        due("what -1", x.moves(-1, 0), SameWater.NO);
        due("part 2", x.moves(0, 2), SameWater.NO);
        due("part -1", x.moves(0, -1), SameWater.NO);
    }

    /** Promise 23: BEAR. */
    private static void bear() {
        SameWater x = new SameWater();
        x.child(50);
        int bear2 = x.asking(0, 1, 2, false, 0, 1, 0);
        int bear1 = x.asking(2, 1, 1, false, 0, 1, 0);
        int man2 = x.asking(0, 0, 2, false, 0, 1, 0);
        int man1 = x.asking(1, 0, 1, false, 0, 1, 0);
        int nobody = x.asking(0, 2, 1, false, 0, 1, 0);
        int changed = x.asking(0, 1, 1, false, 0, 1, 1);
        answer(x, nobody, "1");
        answer(x, changed, "1");
        moves(x, 1, 0, 1);
        answer(x, bear1, "1");
        moves(x, 1, 1, 1);
        answer(x, bear2, "00");
        moves(x, 1, 1, 3);
        answer(x, man2, "2");
        answer(x, man1, "1");
        moves(x, 1, -1, 6);
        due("part 2", x.moves(1, 2), SameWater.NO);
    }

    /** Promise 24. */
    private static void fooled() {
        SameWater x = new SameWater();
        for (int i = 0; i < 8; i++) {
            x.child(50);
        }
        x.asking(0, 0, 1, false, 0, 1, 0);
        x.asking(0, 0, 1, false, 0, 1, 1);
        x.asking(0, 0, 1, false, 0, 1, -1);
        x.answer(0, 0, 1, false);
        x.answer(1, 1, 2, false);
        x.answer(2, 2, 2, false);
        due("nobody", x.fooled(), 0);
        x.answer(1, 1, 1, false);
        due("by more", x.fooled(), 2);
        x.answer(7, 2, 1, false);
        due("by less", x.fooled(), 130);
        x.answer(7, 2, 0, false);
        due("once fooled", x.fooled(), 130);
        SameWater y = new SameWater();
        y.child(50);
        y.asking(0, 0, 1, false, 0, 1, 1);
        y.answer(0, 0, 1, false);
        due("by the first answer", y.fooled(), 1);
    }

    /** Children 0 .. 7; stuffs 0 .. 3 unchanged, then 0 .. 3 changed. */
    private static SameWater steps() {
        SameWater x = new SameWater();
        for (int i = 0; i < 8; i++) {
            x.child(50);
        }
        for (int i = 0; i < 8; i++) {
            x.asking(i % 4, 0, 1, false, 0, 1, i / 4);
        }
        return x;
    }

    /** Promise 25. */
    private static void once() {
        SameWater x = steps();
        x.answer(0, 0, 1, false);
        x.answer(0, 5, 1, false);
        due("one stuff, one changed", x.once(), 0);
        x.answer(0, 1, 1, false);
        due("two shown", x.once(), 1);
        x.answer(1, 2, 0, false);
        x.answer(1, 3, 2, false);
        due("two missed", x.once(), 3);
        x.answer(2, 0, 0, false);
        x.answer(2, 1, 1, false);
        due("one of each", x.once(), 3);
        x.answer(0, 3, 2, false);
        due("shown, shown, missed", x.once(), 2);
        x.answer(2, 1, 0, false);
        due("the same and less is missed", x.once(), 6);
        x.answer(7, 0, 2, false);
        x.answer(7, 0, 1, false);
        x.answer(7, 1, 1, false);
        x.answer(7, 1, 2, false);
        due("missed whichever comes first", x.once(), 134);
        x.answer(3, 0, 0, false);
        x.answer(3, 0, 0, false);
        due("twice one stuff", x.once(), 134);
    }

    /** Promise 26. */
    private static void order() {
        SameWater x = steps();
        due("nobody", x.order(0, 1), 0);
        x.answer(0, 0, 1, false);
        due("not asked is not missed", x.order(0, 1), 0);
        x.answer(0, 5, 0, false);
        due("changed is not missed", x.order(0, 1), 0);
        x.answer(0, 1, 0, false);
        due("one", x.order(0, 1), 1);
        due("the other way", x.order(1, 0), 0);
        x.answer(5, 0, 1, false);
        x.answer(5, 1, 1, false);
        due("both shown", x.order(0, 1), 1);
        x.answer(5, 1, 2, false);
        due("two", x.order(0, 1), 2);
        x.answer(0, 0, 2, false);
        due("no longer shown", x.order(0, 1), 1);
        due("one stuff", x.order(2, 2), -2);
        due("stuff 4", x.order(4, 0), -1);
        due("other 4", x.order(0, 4), -1);
        due("stuff -1", x.order(-1, 0), -1);
        due("other -1", x.order(0, -1), -1);
        due("none before bad", x.order(4, 4), -1);
    }

    /** Promise 27. */
    private static void from() {
        SameWater x = new SameWater();
        x.child(24);
        x.child(120);
        x.child(60);
        x.asking(0, 0, 1, false, 0, 1, 0);
        x.asking(0, 0, 1, false, 0, 1, 1);
        x.asking(1, 0, 1, false, 0, 1, 0);
        due("no answers", x.from(0, false), -5);
        x.answer(2, 1, 1, true);
        due("changed", x.from(0, false), -5);
        x.answer(2, 2, 1, false);
        due("another stuff", x.from(0, false), -5);
        due("that one", x.from(1, false), 24);
        due("that one with a why", x.from(1, true), -5);
        x.answer(0, 0, 0, true);
        due("less", x.from(0, false), -5);
        x.answer(2, 0, 1, false);
        due("half of them are not more than half", x.from(0, false), 25);
        x.answer(1, 0, 1, true);
        due("two of three", x.from(0, false), 24);
        due("with a why", x.from(0, true), 61);
        x.answer(2, 0, 2, true);
        x.answer(2, 0, 2, true);
        due("above 60", x.from(0, false), 61);
        x.answer(1, 0, 0, true);
        due("one of two at 120", x.from(0, false), -5);
        x.answer(1, 0, 1, false);
        due("two of three at 120", x.from(0, false), 61);
        due("one of three with a why", x.from(0, true), -5);
        SameWater y = new SameWater();
        y.child(119);
        y.child(120);
        y.asking(3, 0, 1, false, 0, 1, 0);
        y.answer(0, 0, 0, false);
        y.answer(1, 0, 1, false);
        due("the highest age", y.from(3, false), 120);
        y.grow(60);
        due("ages then", y.from(3, false), 120);
        due("stuff 4", y.from(4, false), -1);
        due("stuff -1", y.from(-1, true), -1);
    }

    /** Promise 28. */
    private static void spread() {
        SameWater x = new SameWater();
        x.child(50);
        x.child(120);
        Check.law(x, 6, 0, "from 0 60;over 1 2 6;over 2 3 1;over 1 1 50");
        due("taught nothing", x.spread(0, 0, 0), -3);
        due("n -1", x.spread(0, 0, -1), -2);
        due("n 100", x.spread(0, 0, 100), -2);
        due("law 1", x.spread(1, 0, 0), -1);
        due("law -1", x.spread(-1, 0, 0), -1);
        due("child 2", x.spread(0, 2, 0), -1);
        due("child -1", x.spread(0, -1, 0), -1);
        due("none before bad", x.spread(1, 0, 100), -1);
        x.teach(0, 1);
        due("what was taught", x.spread(0, 0, 0), 2);
        due("5 months", x.spread(0, 0, 5), 2);
        due("6 months", x.spread(0, 0, 6), 6);
        due("10 months", x.spread(0, 0, 10), 7);
        due("34 months", x.spread(0, 0, 33), 7);
        due("84", x.spread(0, 0, 34), 15);
        x.grow(6);
        due("from now", x.spread(0, 0, 0), 6);
        due("the other", x.spread(0, 1, 0), -3);
        Check.law(x, 2, 0, "from 0 218;from 1 219;from 2 220;from 3 130;over 3 2 99");
        x.teach(1, 3);
        due("above 120", x.spread(1, 1, 98), 9);
        due("219", x.spread(1, 1, 99), 15);
        for (int stuff = 0; stuff < 4; stuff++) {
            SameWater y = new SameWater();
            y.child(50);
            Check.law(y, 2, 0, "slip 0");
            y.teach(0, stuff);
            due("taught stuff " + stuff, y.spread(0, 0, 0), 1 << stuff);
        }
    }
}
