/** The edges of chances, sets, likeliest, rules and partings (section 2). */
public final class OddsEdgesTest {
    private static final Check CHECK = new Check();
    private static final int ANSWER = 0, LENGTH = 1, KEPT = 2;

    public static void main(String[] args) {
        chanceByEachSlip();
        chanceOfTheAgeThen();
        chanceByWhatItIsTaughtNow();
        oddsOfNone();
        oddsOfEightAtMost();
        setsOfTheFirst30();
        setsOfNoneSuch();
        oddsMultipliedInLowestTerms();
        cannotNone();
        cannotTheFirst();
        rightOfAll();
        likeliestWithoutLaws();
        likeliestOfSeveralTheLeast();
        likeliestByAllEight();
        ruleOfNothing();
        ruleOfSeveralTheLeast();
        ruleOfItsOwnAnswers();
        partsFromNoneToAll();
        partsAtAgesAsNow();
        nextOfNothing();
        nextWhereAllTellTheSame();
        nextOfSeveralTheLeast();
        nextByEachHeap();
        nextOfEightLaws();
        theEighthLawAlone();
        CHECK.end();
    }

    private static void due(String call, long got, long want) {
        CHECK.due(call, got, want);
    }

    private static void fraction(String call, long above, long below, long wantAbove, long wantBelow) {
        due(call + " above", above, wantAbove);
        due(call + " below", below, wantBelow);
    }

    /** A child of 50 months and an asking of water that is the same and looks more; so many answers of "the same". */
    private static SameWater answered(int answers) {
        SameWater x = new SameWater();
        x.child(50);
        x.asking(0, 1, 1, false, 0, 4, 0);
        for (int i = 0; i < answers; i++) {
            x.answer(0, 0, 1, false);
        }
        return x;
    }

    private static long gcd(long a, long b) {
        return b == 0 ? a : gcd(b, a % b);
    }

    /** "(200 less 2 times SLIP) of 200, if it is what the LAW tells, else SLIP of 200", "in lowest terms". */
    private static void chanceByEachSlip() {
        for (int slip = 0; slip <= 102; slip++) {
            SameWater x = answered(1);
            x.answer(0, 0, 2, false);
            Check.law(x, ANSWER, 0, "slip " + slip);
            long told = 200 - 2 * Math.min(slip, 100);
            long other = Math.min(slip, 100);
            fraction("told, slip " + slip, x.chance(0, 0, 0), x.chance(0, 0, 1), told / gcd(told, 200), 200 / gcd(told, 200));
            fraction("not told, slip " + slip, x.chance(0, 1, 0), x.chance(0, 1, 1),
                    other / gcd(other, 200), 200 / gcd(other, 200));
        }
    }

    /** "(of the AGE that it had then)". */
    private static void chanceOfTheAgeThen() {
        SameWater x = answered(1);
        Check.law(x, KEPT, 0, "from 0 51");
        due("of 50", x.chance(0, 0, 0), 0);
        x.grow(1);
        due("still of 50", x.chance(0, 0, 0), 0);
        x.answer(0, 0, 1, false);
        due("of 51", x.chance(0, 1, 0), 1);
        Check.law(x, ANSWER, 0, "say 2 a=50");
        due("a says of the age then", x.chance(1, 0, 0), 0);
        due("a says of the later age", x.chance(1, 1, 0), 1);
    }

    /** "by what it is TAUGHT now". */
    private static void chanceByWhatItIsTaughtNow() {
        SameWater x = answered(1);
        Check.law(x, KEPT, 0, "over 1 0 0");
        due("ahead", x.chance(0, 0, 0), 0);
        x.teach(0, 1);
        due("by now", x.chance(0, 0, 0), 1);
        SameWater y = answered(1);
        Check.law(y, KEPT, 0, "over 1 0 0");
        y.grow(1);
        y.teach(0, 1);
        due("taught above the age then", y.chance(0, 0, 0), 0);
    }

    private static void oddsOfNone() {
        SameWater x = answered(0);
        Check.law(x, ANSWER, 0, "slip 7");
        fraction("no answers", x.odds(0, 0, 0), x.odds(0, 0, 1), 1, 1);
        x.answer(0, 0, 0, false);
        fraction("none of one", x.odds(0, 0, 0), x.odds(0, 0, 1), 1, 1);
    }

    /** "ODDS of a set of ANSWERS (8 at most)". */
    private static void oddsOfEightAtMost() {
        SameWater x = answered(40);
        Check.law(x, ANSWER, 0, "slip 50");
        int[] sets = {0, 1, 3, 7, 15, 31, 63, 127, 255};
        for (int size = 0; size <= 8; size++) {
            fraction("of " + size, x.odds(0, sets[size], 0), x.odds(0, sets[size], 1), 1, 1L << size);
            due("likeliest of " + size, x.likeliest(sets[size]), 0);
        }
        for (int eight : new int[] {0x3fc00000, 0x5555, 0x2aaa8000, 0x21111007, 0x0f000f00}) {
            fraction("of 8: " + eight, x.odds(0, eight, 0), x.odds(0, eight, 1), 1, 256);
            due("likeliest of 8: " + eight, x.likeliest(eight), 0);
        }
        for (int nine : new int[] {511, 0x3fe00000, 0x15555, 0x3fffffff}) {
            fraction("of more: " + nine, x.odds(0, nine, 0), x.odds(0, nine, 1), SameWater.NO, SameWater.NO);
            due("likeliest of more: " + nine, x.likeliest(nine), SameWater.BAD);
        }
    }

    /** "(of the first 30)": bits 30 and 31 are none, however many answers there are. */
    private static void setsOfTheFirst30() {
        for (int answers : new int[] {30, 31, 32, 40}) {
            SameWater x = answered(answers);
            Check.law(x, ANSWER, 0, "slip 50");
            due("the 30th of " + answers, x.odds(0, 1 << 29, 1), 2);
            due("likeliest of the 30th", x.likeliest(1 << 29), 0);
            for (int none : new int[] {1 << 30, 1 << 31, 1 << 30 | 1, 1 << 31 | 1, 3 << 30, -1}) {
                due("set " + none + " of " + answers, x.odds(0, none, 0), SameWater.NO);
                due("likeliest of " + none, x.likeliest(none), SameWater.BAD);
            }
        }
    }

    /** "(sets with bits of none such)". */
    private static void setsOfNoneSuch() {
        for (int answers = 0; answers <= 31; answers++) {
            SameWater x = answered(answers);
            Check.law(x, ANSWER, 0, "slip 50");
            if (answers > 0) {
                int last = Math.min(answers, 30) - 1;
                due("the last of " + answers, x.odds(0, 1 << last, 0), 1);
                due("likeliest of the last", x.likeliest(1 << last), 0);
            }
            int next = Math.min(answers, 30);
            due("beyond " + answers, x.odds(0, 1 << next, 0), SameWater.NO);
            due("likeliest beyond " + answers, x.likeliest(1 << next), SameWater.BAD);
            due("beyond, with another, " + answers, x.odds(0, 1 << next | 1, 0), SameWater.NO);
            due("likeliest beyond, with another, " + answers, x.likeliest(1 << next | 1), SameWater.BAD);
        }
    }

    /** "CHANCES of all, multiplied", "in lowest terms": up to 1 of 200 eight times. */
    private static void oddsMultipliedInLowestTerms() {
        SameWater x = answered(8);
        for (int i = 0; i < 8; i++) {
            x.answer(0, 0, 2, false);
        }
        Check.law(x, ANSWER, 0, "slip 1");
        Check.law(x, ANSWER, 0, "slip 0");
        Check.law(x, ANSWER, 0, "slip 100");
        Check.law(x, ANSWER, 0, "slip 99");
        fraction("1 of 200", x.odds(0, 0xff00, 0), x.odds(0, 0xff00, 1), 1, 2560000000000000000L);
        fraction("99 of 100", x.odds(0, 0xff, 0), x.odds(0, 0xff, 1), 9227446944279201L, 10000000000000000L);
        fraction("both", x.odds(0, 0x101, 0), x.odds(0, 0x101, 1), 99, 20000);
        fraction("1 of 1", x.odds(1, 0xff, 0), x.odds(1, 0xff, 1), 1, 1);
        fraction("0 of 1", x.odds(1, 0x17f, 0), x.odds(1, 0x17f, 1), 0, 1);
        fraction("1 of 2", x.odds(2, 0xff00, 0), x.odds(2, 0xff00, 1), 1, 256);
        fraction("none if as told", x.odds(2, 0x7f01, 0), x.odds(2, 0x7f01, 1), 0, 1);
        fraction("99 of 200", x.odds(3, 0xff00, 0), x.odds(3, 0xff00, 1), 9227446944279201L, 2560000000000000000L);
    }

    /** "(-5: none)". */
    private static void cannotNone() {
        SameWater x = answered(0);
        Check.law(x, ANSWER, 0, "slip 0");
        due("no answers", x.cannot(0), -5);
        SameWater y = answered(40);
        Check.law(y, ANSWER, 0, "slip 0");
        Check.law(y, ANSWER, 0, "slip 99");
        Check.law(y, ANSWER, 0, "slip 100");
        Check.law(y, LENGTH, 0, "slip 1");
        due("all as told", y.cannot(0), -5);
        due("slip 99", y.cannot(1), -5);
        due("slip 100, all as told", y.cannot(2), 0);
        due("slip 1, none as told", y.cannot(3), -5);
    }

    /** "the first ANSWER with CHANCE 0", up to the 40th. */
    private static void cannotTheFirst() {
        for (int ahead : new int[] {0, 1, 29, 30, 38, 39}) {
            SameWater x = answered(ahead);
            for (int i = ahead; i < 40; i++) {
                x.answer(0, 0, 2, false);
            }
            Check.law(x, ANSWER, 0, "slip 0");
            Check.law(x, LENGTH, 0, "slip 100");
            due("first of those not told", x.cannot(0), ahead);
            due("first of those told, by slips alone", x.cannot(1), ahead);
        }
    }

    /** "how many of all ANSWERS": 0 to 40. */
    private static void rightOfAll() {
        for (int same : new int[] {0, 1, 39, 40}) {
            SameWater x = answered(same);
            for (int i = same; i < 40; i++) {
                x.answer(0, 0, 2, false);
            }
            Check.law(x, ANSWER, 0, "slip 100");
            Check.law(x, LENGTH, 0, "slip 0");
            due("as told " + same, x.right(0), same);
            due("the others", x.right(1), 40 - same);
        }
        SameWater y = answered(0);
        Check.law(y, ANSWER, 0, "say 0 a<999");
        due("less to all, of none", y.right(0), 0);
        y.answer(0, 0, 2, false);
        due("less to all, of more", y.right(0), 0);
        SameWater x = answered(0);
        Check.law(x, ANSWER, 0, "slip 0");
        due("of none", x.right(0), 0);
        x.child(90);
        x.answer(0, 0, 1, false);
        x.answer(1, 0, 1, false);
        due("of all children", x.right(0), 2);
    }

    /** "-5: there are no LAWS." */
    private static void likeliestWithoutLaws() {
        SameWater x = answered(8);
        due("none", x.likeliest(0), -5);
        due("8", x.likeliest(255), -5);
        due("bad all the same", x.likeliest(256), SameWater.BAD);
        due("a fault is no law", Check.law(x, 0, 0, "slip"), -14);
        due("still none", x.likeliest(255), -5);
        Check.law(x, LENGTH, 0, "slip 0");
        due("the only one, though its odds are 0", x.likeliest(255), 0);
    }

    /** "(of several the least)". */
    private static void likeliestOfSeveralTheLeast() {
        SameWater x = answered(8);
        Check.law(x, LENGTH, 0, "slip 0");
        Check.law(x, LENGTH, 0, "slip 0");
        due("odds 0, both", x.likeliest(255), 0);
        Check.law(x, ANSWER, 0, "slip 50");
        Check.law(x, LENGTH, 0, "slip 100");
        due("1 of 2, both", x.likeliest(1), 2);
        Check.law(x, ANSWER, 0, "slip 1");
        Check.law(x, ANSWER, 0, "slip 1");
        due("99 of 100, both", x.likeliest(255), 4);
        due("none of them: 1 of 1, all", x.likeliest(0), 0);
        Check.law(x, ANSWER, 0, "slip 2");
        due("not a lesser one behind", x.likeliest(255), 4);
        Check.law(x, ANSWER, 0, "slip 0");
        due("the last", x.likeliest(255), 7);
    }

    /** Odds that differ in the last of eight answers alone. */
    private static void likeliestByAllEight() {
        for (int other = 0; other < 30; other++) {
            SameWater x = answered(0);
            for (int i = 0; i < 30; i++) {
                x.answer(0, 0, i == other ? 0 : 1, false);
            }
            Check.law(x, ANSWER, 0, "slip 1");
            Check.law(x, ANSWER, 0, "slip 2");
            int set = 1 << other | (other < 15 ? 0x3f800000 : 0x7f);
            due("a slip among 8: " + other, x.likeliest(set), 1);
            due("without it: " + other, x.likeliest(set & ~(1 << other)), 0);
        }
    }

    /** "-5: it has no ANSWERS, or there are no LAWS." */
    private static void ruleOfNothing() {
        SameWater x = answered(1);
        x.child(50);
        due("no laws", x.rule(0), -5);
        due("neither", x.rule(1), -5);
        Check.law(x, ANSWER, 0, "slip 0");
        due("a law and an answer", x.rule(0), 0);
        due("a law, no answers", x.rule(1), -5);
        due("no child", x.rule(2), SameWater.NONE);
        SameWater y = answered(0);
        Check.law(y, ANSWER, 0, "slip 0");
        due("no answers at all", y.rule(0), -5);
        y.child(50);
        y.answer(1, 0, 1, false);
        due("none of child 0", y.rule(0), -5);
        due("one of child 1", y.rule(1), 0);
    }

    /** "(of several the least)", also where none of its answers is as any tells. */
    private static void ruleOfSeveralTheLeast() {
        SameWater x = answered(0);
        x.answer(0, 0, 0, false);
        Check.law(x, LENGTH, 0, "slip 0");
        Check.law(x, ANSWER, 0, "slip 0");
        due("none of any", x.rule(0), 0);
        x.answer(0, 0, 1, false);
        due("one of the second", x.rule(0), 1);
        x.answer(0, 0, 2, false);
        due("one of both", x.rule(0), 0);
        Check.law(x, ANSWER, 0, "slip 100");
        x.answer(0, 0, 1, false);
        due("two of two laws", x.rule(0), 1);
    }

    /** "of its ANSWERS", "(of the AGE then)". */
    private static void ruleOfItsOwnAnswers() {
        SameWater x = answered(5);
        x.child(50);
        x.answer(1, 0, 2, false);
        Check.law(x, ANSWER, 0, "slip 0");
        Check.law(x, KEPT, 0, "from 0 60");
        due("of child 0", x.rule(0), 0);
        due("of child 1", x.rule(1), 1);
        x.grow(10);
        due("at 60", x.rule(1), 1);
        x.answer(1, 0, 1, false);
        x.answer(1, 0, 1, false);
        due("3 of the second, 2 of the first", x.rule(1), 1);
    }

    private static void partsFromNoneToAll() {
        SameWater x = new SameWater();
        Check.law(x, ANSWER, 0, "slip 0");
        Check.law(x, LENGTH, 0, "slip 0");
        due("nobody, nothing", x.parts(0, 1), 0);
        x.child(50);
        due("no askings", x.parts(0, 1), 0);
        for (int i = 1; i < 8; i++) {
            x.child(50 + i);
        }
        for (int i = 1; i <= 16; i++) {
            x.asking(0, 0, 1, false, 0, 5, 0);
            due("8 by " + i, x.parts(0, 1), 8 * i);
            due("8 by " + i + ", the other way", x.parts(1, 0), 8 * i);
        }
        due("one law", x.parts(0, 0), 0);
        Check.law(x, ANSWER, 0, "say 2 a<57");
        due("all but the last child", x.parts(0, 2), 7 * 16);
        due("the last child", x.parts(1, 2), 16);
        Check.law(x, ANSWER, 0, "say 0 a>0");
        due("less and more", x.parts(1, 3), 128);
        due("less and the same", x.parts(0, 3), 128);
    }

    /** "at AGES as now". */
    private static void partsAtAgesAsNow() {
        SameWater x = answered(0);
        Check.law(x, ANSWER, 0, "slip 0");
        Check.law(x, KEPT, 0, "from 0 51");
        due("at 50", x.parts(0, 1), 1);
        x.grow(1);
        due("at 51", x.parts(0, 1), 0);
    }

    private static void nextOfNothing() {
        SameWater x = new SameWater();
        x.child(50);
        due("no laws, no askings", x.next(0), -5);
        x.asking(0, 0, 1, false, 0, 5, 0);
        due("no laws", x.next(0), -5);
        Check.law(x, LENGTH, 0, "slip 0");
        due("one law", x.next(0), -5);
        SameWater y = new SameWater();
        y.child(50);
        Check.law(y, LENGTH, 0, "slip 0");
        Check.law(y, ANSWER, 0, "slip 0");
        due("no askings", y.next(0), -5);
    }

    /** "-5: to each ASKING all tell the same", at its age now. */
    private static void nextWhereAllTellTheSame() {
        SameWater x = answered(0);
        x.child(60);
        x.asking(1, 0, 1, false, 0, 0, 0);
        Check.law(x, LENGTH, 0, "slip 0");
        Check.law(x, KEPT, 0, "from 0 60");
        Check.law(x, LENGTH, 0, "say 0 t<1;say 0 w>0");
        due("at 50", x.next(0), -5);
        due("at 60", x.next(1), 0);
        x.grow(9);
        due("at 59", x.next(0), -5);
        x.grow(1);
        due("grown to 60", x.next(0), 0);
    }

    /** "(of several the least)". */
    private static void nextOfSeveralTheLeast() {
        SameWater x = new SameWater();
        x.child(50);
        for (int i = 0; i < 16; i++) {
            x.asking(i / 4, 0, 1, false, i % 4, 0, 0);
        }
        Check.law(x, ANSWER, 0, "slip 0");
        Check.law(x, ANSWER, 0, "say 2 k=3&w=3");
        due("the 16th alone", x.next(0), 15);
        Check.law(x, ANSWER, 0, "say 0 k=3&w>1");
        due("1 and 1 and 1 are less than 2 and 1", x.next(0), 15);
        Check.law(x, ANSWER, 0, "say 2 k=2");
        due("2 and 1 and 1 are less than 3 and 1", x.next(0), 15);
        Check.law(x, ANSWER, 0, "say 2 k=2");
        Check.law(x, ANSWER, 0, "say 2 k=2");
        due("3 and 3 at four askings", x.next(0), 8);
        due("no child", x.next(1), SameWater.NONE);
    }

    /** Each of the three heaps may be the greatest: less, the same, more at askings 0, 1, 2, by 4 of 5 laws or 3. */
    private static void nextByEachHeap() {
        for (int heap = 0; heap <= 2; heap++) {
            for (int best = 0; best <= 2; best++) {
                SameWater x = new SameWater();
                x.child(50);
                x.asking(0, 0, 1, false, 0, 0, 0);
                x.asking(1, 0, 1, false, 0, 0, 0);
                x.asking(2, 0, 1, false, 0, 0, 0);
                int other = (heap + 1) % 3;
                Check.law(x, ANSWER, 0, "say " + other + " k<9");
                Check.law(x, ANSWER, 0, "say " + other + " k=" + best + ";say " + heap + " k<9");
                Check.law(x, ANSWER, 0, "say " + heap + " k<9");
                Check.law(x, ANSWER, 0, "say " + heap + " k<9");
                Check.law(x, ANSWER, 0, "say " + heap + " k<9");
                due("heap " + heap + " is less at " + best, x.next(0), best);
            }
        }
    }

    private static void nextOfEightLaws() {
        SameWater x = new SameWater();
        x.child(50);
        x.asking(0, 0, 1, false, 0, 0, 0);
        x.asking(1, 0, 1, false, 0, 0, 0);
        x.asking(2, 0, 1, false, 0, 0, 0);
        String[] laws = {"say 0 k<9", "say 0 k<9", "say 0 k<9", "say 0 k=0;say 1 k<9", "say 2 k=0;say 1 k<9",
                "say 2 k=0;say 1 k<9", "say 2 k=0;say 2 k<9", "say 2 k=0;say 2 k<9"};
        for (String law : laws) {
            Check.law(x, ANSWER, 0, law);
        }
        due("3 and 3 and 2 before 4 and 4", x.next(0), 1);
    }

    /** Of 8 laws only the last is unlike the others; of 40 answers only the last is its child's. */
    private static void theEighthLawAlone() {
        SameWater x = answered(39);
        x.child(50);
        x.asking(1, 1, 1, false, 0, 0, 0);
        x.answer(1, 1, 2, false);
        for (int i = 0; i < 7; i++) {
            Check.law(x, ANSWER, 0, "slip 1");
        }
        due("none parts", x.next(1), -5);
        due("none as told: the least", x.rule(1), 0);
        Check.law(x, ANSWER, 0, "say 2 k=1");
        due("next", x.next(1), 1);
        due("rule", x.rule(1), 7);
        due("rule of the other child", x.rule(0), 0);
        due("likeliest", x.likeliest(255), 7);
        due("right", x.right(7), 40);
        due("parts", x.parts(0, 7), 2);
    }
}
