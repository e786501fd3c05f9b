/** Promises 15 to 22: chances, odds, what can't be, what is right, likeliest, rules, parting. */
public final class OddsTest {
    private static final Check CHECK = new Check();

    public static void main(String[] args) {
        chance();
        odds();
        cannot();
        right();
        likeliest();
        rule();
        parts();
        next();
        heaps();
        CHECK.end();
    }

    private static void due(String call, long got, long want) {
        CHECK.due(call, got, want);
    }

    /** A child of 50 months, and one of 70; water that looks more and is the same, and is more. */
    private static SameWater asked() {
        SameWater x = new SameWater();
        x.child(50);
        x.child(70);
        x.asking(0, 1, 1, false, 0, 4, 0);
        x.asking(0, 1, 1, false, 0, 4, 1);
        x.asking(1, 1, 1, false, 0, -4, 0);
        return x;
    }

    private static void fraction(String call, long above, long below, long wantAbove, long wantBelow) {
        due(call + " above", above, wantAbove);
        due(call + " below", below, wantBelow);
    }

    private static void chanceOf(SameWater x, int law, int answer, long above, long below) {
        fraction("chance " + law + " " + answer, x.chance(law, answer, 0), x.chance(law, answer, 1), above, below);
    }

    /** Promise 15. */
    private static void chance() {
        SameWater x = asked();
        x.answer(0, 0, 1, false);
        x.answer(0, 0, 2, false);
        int[] slips = {0, 1, 10, 50, 99, 100, 67};
        long[][] told = {{1, 1}, {99, 100}, {9, 10}, {1, 2}, {1, 100}, {0, 1}, {33, 100}};
        long[][] other = {{0, 1}, {1, 200}, {1, 20}, {1, 4}, {99, 200}, {1, 2}, {67, 200}};
        for (int law = 0; law < slips.length; law++) {
            Check.law(x, 0, 0, "slip " + slips[law]);
            chanceOf(x, law, 0, told[law][0], told[law][1]);
            chanceOf(x, law, 1, other[law][0], other[law][1]);
        }
        // Of the age then, by what it is taught now.
        Check.law(x, 2, 0, "from 0 60;slip 10");
        chanceOf(x, 7, 1, 9, 10);
        x.grow(20);
        chanceOf(x, 7, 1, 9, 10);
        SameWater y = asked();
        y.answer(0, 2, 1, false);
        Check.law(y, 2, 0, "slip 10");
        chanceOf(y, 0, 0, 1, 20);
        y.teach(0, 1);
        chanceOf(y, 0, 0, 9, 10);
        SameWater z = asked();
        z.answer(0, 2, 1, false);
        Check.law(z, 2, 0, "slip 10");
        z.grow(1);
        z.teach(0, 1);
        chanceOf(z, 0, 0, 1, 20);
        due("law 1", z.chance(1, 0, 0), SameWater.NO);
        due("law -1", z.chance(-1, 0, 0), SameWater.NO);
        due("answer 1", z.chance(0, 1, 0), SameWater.NO);
        due("answer -1", z.chance(0, -1, 0), SameWater.NO);
        due("part 2", z.chance(0, 0, 2), SameWater.NO);
        due("part -1", z.chance(0, 0, -1), SameWater.NO);
    }

    /** Promise 16. */
    private static void odds() {
        SameWater x = asked();
        for (int i = 0; i < 40; i++) {
            x.answer(0, 0, i % 2 + 1, false);
        }
        Check.law(x, 0, 0, "slip 3");
        Check.law(x, 0, 0, "slip 0");
        Check.law(x, 0, 0, "slip 100");
        fraction("of none", x.odds(0, 0, 0), x.odds(0, 0, 1), 1, 1);
        fraction("of one", x.odds(0, 1, 0), x.odds(0, 1, 1), 97, 100);
        fraction("of two", x.odds(0, 3, 0), x.odds(0, 3, 1), 291, 20000);
        fraction("of 8", x.odds(0, 0x5555, 0), x.odds(0, 0x5555, 1), 7837433594376961L, 10000000000000000L);
        fraction("of 8 slips", x.odds(0, 0xaaaa, 0), x.odds(0, 0xaaaa, 1), 6561, 2560000000000000000L);
        fraction("sure", x.odds(1, 0x5555, 0), x.odds(1, 0x5555, 1), 1, 1);
        fraction("can't", x.odds(1, 0x1557, 0), x.odds(1, 0x1557, 1), 0, 1);
        fraction("halves", x.odds(2, 0xaaaa, 0), x.odds(2, 0xaaaa, 1), 1, 256);
        fraction("30th", x.odds(0, 1 << 29, 0), x.odds(0, 1 << 29, 1), 3, 200);
        due("31st", x.odds(0, 1 << 30, 0), SameWater.NO);
        due("32nd", x.odds(0, 1 << 31, 0), SameWater.NO);
        due("of 9", x.odds(0, 511, 0), SameWater.NO);
        due("of all", x.odds(0, -1, 0), SameWater.NO);
        due("law 3", x.odds(3, 1, 0), SameWater.NO);
        due("law -1", x.odds(-1, 1, 0), SameWater.NO);
        due("part 2", x.odds(0, 1, 2), SameWater.NO);
        due("part -1", x.odds(0, 1, -1), SameWater.NO);
        SameWater y = asked();
        Check.law(y, 0, 0, "slip 3");
        y.answer(0, 0, 1, false);
        due("none such", y.odds(0, 2, 0), SameWater.NO);
        due("one such, one not", y.odds(0, 3, 1), SameWater.NO);
    }

    /** Promise 17. */
    private static void cannot() {
        SameWater x = asked();
        due("no law", x.cannot(0), -1);
        Check.law(x, 0, 0, "slip 0");
        Check.law(x, 0, 0, "slip 1");
        Check.law(x, 0, 0, "slip 100");
        due("no answers", x.cannot(0), -5);
        x.answer(0, 0, 1, false);
        due("as told", x.cannot(0), -5);
        due("as told, with all slips", x.cannot(2), 0);
        x.answer(1, 0, 2, false);
        x.answer(1, 0, 0, false);
        due("the first that can't", x.cannot(0), 1);
        due("slips", x.cannot(1), -5);
        due("law 3", x.cannot(3), -1);
        due("law -1", x.cannot(-1), -1);
    }

    /** Promise 18. */
    private static void right() {
        SameWater x = asked();
        due("no law", x.right(0), -1);
        Check.law(x, 2, 0, "from 0 60;slip 100");
        due("no answers", x.right(0), 0);
        x.answer(0, 0, 2, false);
        x.answer(1, 0, 1, false);
        x.answer(1, 0, 2, false);
        due("two", x.right(0), 2);
        x.grow(20);
        due("of the age then", x.right(0), 2);
        x.answer(0, 0, 1, false);
        due("three", x.right(0), 3);
        due("law 1", x.right(1), -1);
        due("law -1", x.right(-1), -1);
    }

    /** Promise 19. */
    private static void likeliest() {
        SameWater x = asked();
        x.answer(0, 0, 1, false);
        x.answer(0, 0, 2, false);
        x.answer(0, 0, 1, false);
        due("no laws", x.likeliest(7), -5);
        due("bad before no laws", x.likeliest(8), -2);
        Check.law(x, 0, 0, "slip 40");
        Check.law(x, 0, 0, "slip 10");
        Check.law(x, 0, 0, "slip 10");
        Check.law(x, 1, 0, "slip 10");
        Check.law(x, 0, 0, "slip 0");
        due("of none: all alike", x.likeliest(0), 0);
        due("the least that slips", x.likeliest(1), 4);
        due("looks", x.likeliest(2), 3);
        due("both", x.likeliest(3), 0);
        due("of several the least", x.likeliest(5), 4);
        due("all three", x.likeliest(7), 0);
        SameWater y = asked();
        y.answer(0, 0, 0, false);
        Check.law(y, 0, 0, "slip 0");
        Check.law(y, 1, 0, "slip 0");
        due("none of them can", y.likeliest(1), 0);
        Check.law(y, 1, 0, "slip 20");
        Check.law(y, 0, 0, "slip 20");
        due("the first of two alike", y.likeliest(1), 2);
        for (int i = 1; i < 40; i++) {
            y.answer(0, 0, 0, false);
        }
        due("8 of the last", y.likeliest(0xff << 22), 2);
        due("9", y.likeliest(511), -2);
        due("31st", y.likeliest(1 << 30), -2);
        due("32nd", y.likeliest(1 << 31), -2);
    }

    /** Promise 20. */
    private static void rule() {
        SameWater x = asked();
        due("child 2", x.rule(2), -1);
        due("child -1", x.rule(-1), -1);
        x.answer(0, 0, 2, false);
        due("no laws", x.rule(0), -5);
        Check.law(x, 0, 0, "slip 0");
        Check.law(x, 2, 0, "from 0 60");
        Check.law(x, 1, 0, "slip 0");
        due("no answers", x.rule(1), -5);
        due("of two the least", x.rule(0), 1);
        x.answer(1, 0, 0, false);
        due("none right", x.rule(1), 0);
        x.answer(1, 1, 2, false);
        due("one right", x.rule(1), 1);
        x.grow(20);
        due("of the age then", x.rule(0), 1);
        x.answer(0, 0, 1, false);
        x.answer(0, 2, 1, false);
        due("two of 0 and two of 1", x.rule(0), 0);
        x.answer(0, 0, 1, false);
        due("three of both", x.rule(0), 0);
        x.answer(0, 1, 2, false);
        due("three of 0, four of 1", x.rule(0), 1);
        SameWater y = asked();
        y.answer(0, 0, 2, false);
        y.answer(1, 0, 1, false);
        y.answer(1, 0, 1, false);
        Check.law(y, 0, 0, "slip 0");
        Check.law(y, 1, 0, "slip 0");
        due("of its own answers alone", y.rule(0), 1);
    }

    /** Promise 21. */
    private static void parts() {
        SameWater x = asked();
        Check.law(x, 0, 0, "slip 0");
        Check.law(x, 2, 0, "from 0 60;from 1 60");
        Check.law(x, 2, 0, "from 0 60;from 1 60;slip 50");
        due("otherwise", x.parts(0, 1), 4);
        due("the other way", x.parts(1, 0), 4);
        due("itself", x.parts(1, 1), 0);
        due("slips don't part", x.parts(1, 2), 0);
        x.grow(10);
        due("as now", x.parts(0, 1), 2);
        due("law 3", x.parts(3, 0), -1);
        due("other 3", x.parts(0, 3), -1);
        due("law -1", x.parts(-1, 0), -1);
        due("other -1", x.parts(0, -1), -1);
    }

    /** Promise 22. */
    private static void next() {
        SameWater x = asked();
        due("child 2", x.next(2), -1);
        due("child -1", x.next(-1), -1);
        due("no laws", x.next(0), -5);
        Check.law(x, 2, 0, "from 0 60");
        due("one law", x.next(0), -5);
        Check.law(x, 1, 0, "slip 0");
        due("all the same at 50", x.next(0), -5);
        due("water at 70", x.next(1), 0);
        Check.law(x, 0, 0, "slip 0");
        due("2 and 1 by all of them", x.next(0), 0);
        Check.law(x, 1, 0, "say 0 k=1;say 0 c=1");
        due("2 and 2 before 2 and 1 and 1", x.next(0), 1);
        due("2 and 2 at 70", x.next(1), 0);
        SameWater y = new SameWater();
        y.child(50);
        Check.law(y, 0, 0, "slip 0");
        Check.law(y, 1, 0, "slip 0");
        due("no askings", y.next(0), -5);
        y.asking(0, 0, 1, false, 0, 0, 0);
        due("both the same", y.next(0), -5);
        y.asking(0, 0, 1, false, 0, 3, 0);
        due("the one that parts", y.next(0), 1);
    }

    /** Promise 22 by heaps: each law is told as what it says of the askings 0 .. 3. */
    private static void heaps(int want, String... laws) {
        SameWater x = new SameWater();
        x.child(50);
        for (int stuff = 0; stuff < laws[0].length(); stuff++) {
            x.asking(stuff, 0, 1, false, 0, 0, 0);
        }
        for (String law : laws) {
            StringBuilder text = new StringBuilder("slip 0");
            for (int stuff = 0; stuff < law.length(); stuff++) {
                text.append(";say ").append(law.charAt(stuff)).append(" k=").append(stuff);
            }
            Check.law(x, 0, 0, text.toString());
        }
        due("next of " + String.join(" ", laws), x.next(0), want);
    }

    private static void heaps() {
        heaps(-5, "0120", "0120", "0120");
        for (String three : new String[] {"012", "120", "201", "021", "102", "210"}) {
            char a = three.charAt(0);
            char b = three.charAt(1);
            char c = three.charAt(2);
            heaps(1, "" + a + a, "" + a + a, "" + a + b, "" + b + b);
            heaps(2, "" + a + b + a, "" + a + b + a, "" + a + b + b, "" + b + c + c);
            heaps(0, "" + a + b, "" + a + b, "" + b + a, "" + b + a);
            heaps(1, "" + a + b + c, "" + a + c + b, "" + a + a + a);
            heaps(3, "" + a + a + b + a, "" + a + a + b + a, "" + a + b + b + b, "" + a + b + b + c, "" + b + a + b + c);
        }
    }
}
