/** The edges of "A CHILD KEEPS a STUFF at an AGE by a LAW" (section 1), of TAUGHT and of growing (section 3). */
public final class KeepsEdgesTest {
    private static final Check CHECK = new Check();

    public static void main(String[] args) {
        ageIsFromOrMore();
        fromOfEachStuff();
        fromWithout();
        fromNoAgeReaches();
        whateverItsKind();
        taughtAtThatAgeOrBefore();
        taughtThatStuffAlone();
        taughtAgainTheEarlierAgeHolds();
        overAfterMonths();
        overFromStuffToStuff();
        overNeedsTheFirstTaught();
        overIsNoChain();
        anyOfSeveralOvers();
        tenOvers();
        overByAgesNotByMonthsGone();
        overAtAgesThen();
        growingByMonths();
        noneAbove120();
        CHECK.end();
    }

    private static void due(String call, long got, long want) {
        CHECK.due(call, got, want);
    }

    private static SameWater child(int age, String law) {
        SameWater x = new SameWater();
        x.child(age);
        Check.law(x, 2, 0, law);
        return x;
    }

    /** "if AGE is FROM or more". */
    private static void ageIsFromOrMore() {
        for (int from : new int[] {25, 26, 60, 100, 119, 120}) {
            due("below " + from, child(from - 1, "from 0 " + from).keeps(0, 0, 0), 0);
            due("at " + from, child(from, "from 0 " + from).keeps(0, 0, 0), 1);
            due("above " + from, child(Math.min(from + 1, 120), "from 0 " + from).keeps(0, 0, 0), 1);
            SameWater x = child(from - 1, "from 0 " + from);
            x.grow(1);
            due("grown to " + from, x.keeps(0, 0, 0), 1);
        }
        for (int from : new int[] {0, 1, 23, 24}) {
            due("24 of " + from, child(24, "from 0 " + from).keeps(0, 0, 0), 1);
        }
    }

    private static void fromOfEachStuff() {
        for (int stuff = 0; stuff < 4; stuff++) {
            SameWater x = child(50, "from " + stuff + " 50");
            for (int other = 0; other < 4; other++) {
                due("from " + stuff + " keeps " + other, x.keeps(0, 0, other), other == stuff ? 1 : 0);
            }
        }
    }

    /** "(84 without)". */
    private static void fromWithout() {
        for (int stuff = 0; stuff < 4; stuff++) {
            due("83 without", child(83, "slip 0").keeps(0, 0, stuff), 0);
            due("84 without", child(84, "slip 0").keeps(0, 0, stuff), 1);
        }
    }

    private static void fromNoAgeReaches() {
        for (int from : new int[] {121, 219, 999}) {
            due("120 of " + from, child(120, "from 0 " + from).keeps(0, 0, 0), 0);
        }
    }

    /** "whatever its KIND": EACH and ANSWER keep by the texts alone. */
    private static void whateverItsKind() {
        for (int kind = 0; kind <= 6; kind++) {
            SameWater x = new SameWater();
            x.child(50);
            Check.law(x, kind, 0, "from 0 60;from 1 50;over 2 3 0");
            x.teach(0, 2);
            int[] keeps = {0, 1, 1, 1};
            for (int stuff = 0; stuff < 4; stuff++) {
                due("kind " + kind + " keeps " + stuff, x.keeps(0, 0, stuff), keeps[stuff]);
            }
        }
    }

    /** "or it was TAUGHT that at that AGE or before": of ages then, 49, 50 and 51. */
    private static void taughtAtThatAgeOrBefore() {
        SameWater x = child(49, "slip 0");
        x.asking(1, 1, 1, false, 0, 5, 0);
        x.answer(0, 0, 1, false);
        x.grow(1);
        x.answer(0, 0, 1, false);
        due("not yet", x.keeps(0, 0, 1), 0);
        due("none as told", x.right(0), 0);
        x.teach(0, 1);
        due("at once", x.keeps(0, 0, 1), 1);
        due("of 49", x.chance(0, 0, 0), 0);
        due("of 50, ahead of the teaching", x.chance(0, 1, 0), 1);
        x.grow(1);
        x.answer(0, 0, 1, false);
        due("of 51", x.chance(0, 2, 0), 1);
        due("now", x.keeps(0, 0, 1), 1);
    }

    private static void taughtThatStuffAlone() {
        for (int stuff = 0; stuff < 4; stuff++) {
            SameWater x = child(50, "slip 0");
            x.child(50);
            due("teach " + stuff, x.teach(0, stuff), 1);
            for (int other = 0; other < 4; other++) {
                due("taught " + stuff + " keeps " + other, x.keeps(0, 0, other), other == stuff ? 1 : 0);
                due("the other child keeps " + other, x.keeps(0, 1, other), 0);
            }
        }
    }

    /** "(again: the earlier AGE holds)". */
    private static void taughtAgainTheEarlierAgeHolds() {
        SameWater x = child(50, "over 0 1 10");
        due("taught", x.teach(0, 0), 1);
        due("again at once", x.teach(0, 0), 0);
        x.grow(9);
        due("again at 59", x.teach(0, 0), 0);
        due("9 months", x.keeps(0, 0, 1), 0);
        x.grow(1);
        due("10 months of the earlier age", x.keeps(0, 0, 1), 1);
        due("again at 60", x.teach(0, 0), 0);
        due("still", x.keeps(0, 0, 1), 1);
        SameWater y = child(120, "slip 0");
        due("taught at 120", y.teach(0, 0), 1);
        y.grow(1);
        due("again at 120", y.teach(0, 0), 0);
    }

    /** "it was TAUGHT STUFF k at an AGE that is n or more less". */
    private static void overAfterMonths() {
        for (int n : new int[] {1, 2, 59, 60, 95, 96}) {
            SameWater x = child(24, "over 0 1 " + n + ";from 1 999");
            x.teach(0, 0);
            for (int left = n - 1; left > 0; left -= 60) {
                x.grow(Math.min(left, 60));
            }
            due(n + " less one", x.keeps(0, 0, 1), 0);
            x.grow(1);
            due(n + " months", x.keeps(0, 0, 1), 1);
            x.grow(1);
            due(n + " and one", x.keeps(0, 0, 1), 1);
        }
        SameWater x = child(24, "over 0 1 0");
        due("0, not taught", x.keeps(0, 0, 1), 0);
        x.teach(0, 0);
        due("0, at once", x.keeps(0, 0, 1), 1);
        SameWater y = child(24, "over 0 1 97;from 1 999");
        y.teach(0, 0);
        y.grow(60);
        y.grow(60);
        due("97 is more than there can be", y.keeps(0, 0, 1), 0);
    }

    /** "by some over k j n (j this STUFF)": each k and j. */
    private static void overFromStuffToStuff() {
        for (int k = 0; k < 4; k++) {
            for (int j = 0; j < 4; j++) {
                for (int taught = 0; taught < 4; taught++) {
                    SameWater x = child(50, "over " + k + " " + j + " 0");
                    x.teach(0, taught);
                    for (int stuff = 0; stuff < 4; stuff++) {
                        boolean keeps = stuff == taught || taught == k && stuff == j;
                        due("over " + k + " " + j + " taught " + taught + " keeps " + stuff, x.keeps(0, 0, stuff), keeps ? 1 : 0);
                    }
                }
            }
        }
    }

    private static void overNeedsTheFirstTaught() {
        SameWater x = child(50, "from 0 40;over 0 1 0");
        due("it keeps the first", x.keeps(0, 0, 0), 1);
        due("but was not taught it", x.keeps(0, 0, 1), 0);
        x.child(50);
        x.teach(1, 0);
        due("another was", x.keeps(0, 0, 1), 0);
        due("that one", x.keeps(0, 1, 1), 1);
    }

    private static void overIsNoChain() {
        SameWater x = child(50, "over 0 1 0;over 1 2 0;over 2 3 0");
        x.teach(0, 0);
        due("over", x.keeps(0, 0, 1), 1);
        due("no further", x.keeps(0, 0, 2), 0);
        due("nor to the last", x.keeps(0, 0, 3), 0);
    }

    private static void anyOfSeveralOvers() {
        for (String law : new String[] {"over 0 3 5;over 1 3 9", "over 1 3 9;over 0 3 5", "over 0 3 5;over 0 3 9;over 0 3 7"}) {
            SameWater x = child(50, law);
            x.teach(0, 0);
            x.grow(4);
            due("4 months " + law, x.keeps(0, 0, 3), 0);
            x.grow(1);
            due("5 months " + law, x.keeps(0, 0, 3), 1);
        }
    }

    /** Each of ten clauses counts. */
    private static void tenOvers() {
        for (int at = 0; at < 10; at++) {
            StringBuilder law = new StringBuilder();
            for (int i = 0; i < 10; i++) {
                law.append(i == 0 ? "" : ";").append(i == at ? "over 0 3 5" : "over 0 3 9");
            }
            SameWater x = child(50, law.toString());
            x.teach(0, 0);
            x.grow(4);
            due("4 months, clause " + at, x.keeps(0, 0, 3), 0);
            x.grow(1);
            due("5 months, clause " + at, x.keeps(0, 0, 3), 1);
        }
    }

    private static void overByAgesNotByMonthsGone() {
        SameWater x = child(118, "over 0 1 3;from 1 999");
        x.teach(0, 0);
        x.grow(60);
        due("118 and 120", x.keeps(0, 0, 1), 0);
        SameWater y = child(117, "over 0 1 3;from 1 999");
        y.teach(0, 0);
        y.grow(60);
        due("117 and 120", y.keeps(0, 0, 1), 1);
    }

    /** At the AGE of an answer, not at the age now. */
    private static void overAtAgesThen() {
        SameWater x = child(50, "over 0 1 6");
        x.asking(1, 1, 1, false, 0, 5, 0);
        x.teach(0, 0);
        x.grow(5);
        x.answer(0, 0, 1, false);
        x.grow(1);
        x.answer(0, 0, 1, false);
        due("5 months then", x.chance(0, 0, 0), 0);
        due("6 months then", x.chance(0, 1, 0), 1);
        due("right", x.right(0), 1);
    }

    /** "GROWING by n months (1 .. 60)". */
    private static void growingByMonths() {
        for (int n : new int[] {1, 2, 59, 60}) {
            SameWater x = child(30, "slip 0");
            x.child(40);
            due("grow " + n, x.grow(n), 2);
            due("30 and " + n, x.age(0), 30 + n);
            due("40 and " + n, x.age(1), 40 + n);
        }
        for (int n : new int[] {0, 61, -1, -60, Integer.MIN_VALUE, Integer.MAX_VALUE}) {
            SameWater x = child(30, "slip 0");
            due("grow " + n, x.grow(n), SameWater.BAD);
            due("30 as before", x.age(0), 30);
        }
        SameWater x = new SameWater();
        due("nobody grows", x.grow(1), 0);
        due("nobody grows badly", x.grow(0), SameWater.BAD);
        due("one made later has its own age", x.child(24), 0);
        due("24", x.age(0), 24);
    }

    /** "(none above 120)". */
    private static void noneAbove120() {
        int[][] grown = {{119, 1, 120}, {119, 2, 120}, {120, 1, 120}, {120, 60, 120}, {60, 59, 119}, {60, 60, 120}, {61, 60, 120}};
        for (int[] g : grown) {
            SameWater x = child(g[0], "slip 0");
            x.child(24);
            x.grow(g[1]);
            due(g[0] + " and " + g[1], x.age(0), g[2]);
            due("24 and " + g[1], x.age(1), 24 + g[1]);
        }
    }
}
