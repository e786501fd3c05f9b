/** The edges of what answers show (section 3): shares, who is fooled, steps, ages of stuffs, what spreads. */
public final class ShowingEdgesTest {
    private static final Check CHECK = new Check();
    private static final int MAN = 0, BEAR = 1, NOBODY = 2;

    public static void main(String[] args) {
        shareOfNone();
        shareOfEach();
        sharesInLowestTerms();
        sharesOfUnchangedAlone();
        twiceIsOfAMan();
        bearIsOfAnyTimes();
        fooledFromNoneToAll();
        fooledByTheSameToChanged();
        shownIfAllAreTheSame();
        onceOfTwoStuffsOrMore();
        onceOfAllChildren();
        onceOfUnchangedAlone();
        orderFromNoneToAll();
        orderNeedsBoth();
        ageOfNothing();
        ageAt24And120();
        ageOfMoreThanHalf();
        ageIsTheLeast();
        ageWithAWhy();
        ageOfItsOwnAnswers();
        spreadFrom0To99();
        spreadAbove120();
        spreadOfTheTaughtAlone();
        spreadChangesNothing();
        theFortiethAnswerAlone();
        CHECK.end();
    }

    private static void due(String call, long got, long want) {
        CHECK.due(call, got, want);
    }

    private static void moves(SameWater x, int what, long above, long below) {
        due("moves " + what + " above", x.moves(what, 0), above);
        due("moves " + what + " below", x.moves(what, 1), below);
    }

    private static SameWater children(int count, int age) {
        SameWater x = new SameWater();
        for (int i = 0; i < count; i++) {
            x.child(age);
        }
        return x;
    }

    /** So many answers of child 0 to an asking of such, of which the first so many are the same. */
    private static void answers(SameWater x, int moved, int times, int truly, int all, int same) {
        int asking = x.asking(0, moved, times, false, 0, 1, truly);
        for (int i = 0; i < all; i++) {
            x.answer(0, asking, i < same ? 1 : i % 2 * 2, false);
        }
    }

    /** "(0, if there are none)": neither, one or the other. */
    private static void shareOfNone() {
        SameWater x = children(1, 50);
        moves(x, 0, 0, 1);
        moves(x, 1, 0, 1);
        answers(x, MAN, 2, 0, 3, 2);
        moves(x, 0, 2, 3);
        moves(x, 1, -2, 3);
        SameWater y = children(1, 50);
        answers(y, MAN, 1, 0, 3, 2);
        moves(y, 0, -2, 3);
        moves(y, 1, -2, 3);
        SameWater z = children(1, 50);
        answers(z, BEAR, 1, 0, 3, 2);
        moves(z, 0, 0, 1);
        moves(z, 1, 2, 3);
        SameWater n = children(1, 50);
        answers(n, NOBODY, 2, 0, 3, 2);
        moves(n, 0, 0, 1);
        moves(n, 1, 0, 1);
    }

    /** None, all and some are the same. */
    private static void shareOfEach() {
        for (int same = 0; same <= 4; same++) {
            for (int less = 0; less <= 4; less++) {
                SameWater x = children(1, 50);
                answers(x, MAN, 2, 0, 4, same);
                answers(x, MAN, 1, 0, 4, less);
                int gcd = same == less ? 4 : Math.abs(same - less) == 2 ? 2 : Math.abs(same - less) == 4 ? 4 : 1;
                moves(x, 0, (same - less) / gcd, 4 / gcd);
                SameWater y = children(1, 50);
                answers(y, BEAR, 1, 0, 4, same);
                answers(y, MAN, 2, 0, 4, less);
                moves(y, 1, (same - less) / gcd, 4 / gcd);
            }
        }
    }

    /** "(Fractions; may be below 0.)", "in lowest terms". */
    private static void sharesInLowestTerms() {
        int[][] shares = {{20, 13, 20, 7, 3, 10}, {20, 7, 20, 13, -3, 10}, {19, 1, 21, 20, -359, 399}, {21, 20, 19, 1, 359, 399},
                {20, 20, 20, 0, 1, 1}, {20, 0, 20, 20, -1, 1}, {20, 10, 20, 10, 0, 1}, {6, 3, 4, 2, 0, 1}, {6, 1, 4, 1, -1, 12},
                {1, 1, 39, 38, 1, 39}, {39, 1, 1, 1, -38, 39}, {1, 0, 39, 0, 0, 1}, {6, 4, 3, 1, 1, 3}};
        for (int[] s : shares) {
            SameWater x = children(1, 50);
            answers(x, MAN, 2, 0, s[0], s[1]);
            answers(x, MAN, 1, 0, s[2], s[3]);
            moves(x, 0, s[4], s[5]);
            SameWater y = children(1, 50);
            answers(y, BEAR, 2, 0, s[0], s[1]);
            answers(y, MAN, 1, 0, s[2], s[3]);
            moves(y, 1, s[4], s[5]);
        }
    }

    /** "ASKINGS that are not changed". */
    private static void sharesOfUnchangedAlone() {
        for (int truly : new int[] {-1, 1}) {
            for (int moved = 0; moved <= 2; moved++) {
                for (int times = 1; times <= 2; times++) {
                    SameWater x = children(1, 50);
                    answers(x, MAN, 2, 0, 3, 2);
                    answers(x, MAN, 1, 0, 4, 1);
                    answers(x, BEAR, 1, 0, 5, 5);
                    answers(x, moved, times, truly, 7, 3);
                    moves(x, 0, 5, 12);
                    moves(x, 1, 4, 7);
                }
            }
        }
    }

    private static void twiceIsOfAMan() {
        for (int moved : new int[] {BEAR, NOBODY}) {
            SameWater x = children(1, 50);
            answers(x, MAN, 2, 0, 3, 2);
            answers(x, MAN, 1, 0, 4, 1);
            answers(x, moved, 1, 0, 5, 4);
            answers(x, moved, 2, 0, 5, 1);
            moves(x, 0, 5, 12);
        }
    }

    private static void bearIsOfAnyTimes() {
        SameWater x = children(1, 50);
        answers(x, BEAR, 1, 0, 2, 2);
        answers(x, BEAR, 2, 0, 3, 1);
        answers(x, MAN, 1, 0, 4, 1);
        answers(x, MAN, 2, 0, 3, 1);
        answers(x, NOBODY, 2, 0, 9, 7);
        moves(x, 1, 11, 35);
    }

    /** "as bits": none, each one, all 8. */
    private static void fooledFromNoneToAll() {
        SameWater x = children(8, 50);
        x.asking(0, 0, 1, false, 0, 0, 1);
        due("nobody", x.fooled(), 0);
        int bits = 0;
        for (int child = 7; child >= 0; child--) {
            x.answer(child, 0, 1, false);
            bits |= 1 << child;
            due("fooled down to " + child, x.fooled(), bits);
        }
        due("all", x.fooled(), 255);
    }

    /** "CHILDREN that answered the same to an ASKING that IS changed". */
    private static void fooledByTheSameToChanged() {
        for (int truly = -1; truly <= 1; truly++) {
            for (int said = 0; said <= 2; said++) {
                SameWater x = children(1, 50);
                x.asking(0, 0, 1, false, 0, 3, truly);
                x.answer(0, 0, said, true);
                due("said " + said + " truly " + truly, x.fooled(), said == 1 && truly != 0 ? 1 : 0);
            }
        }
    }

    /** Stuffs 0 .. 3 unchanged as askings 0 .. 3, changed as askings 4 .. 7. */
    private static SameWater steps() {
        SameWater x = children(8, 50);
        for (int i = 0; i < 8; i++) {
            x.asking(i % 4, 0, 1, false, 0, 1, i / 4);
        }
        return x;
    }

    /** "if there are some, the STUFF is SHOWN, if all are the same, else MISSED": clay is shown; water by its answers. */
    private static void shownIfAllAreTheSame() {
        String[] said = {"", "1", "11", "0", "2", "01", "10", "12", "21", "110", "011", "112", "00", "02"};
        for (String answers : said) {
            SameWater x = steps();
            x.answer(3, 1, 1, false);
            x.answer(3, 2, 0, false);
            for (int i = 0; i < answers.length(); i++) {
                x.answer(3, 0, answers.charAt(i) - '0', false);
            }
            boolean shown = answers.matches("1+");
            boolean missed = answers.matches(".*[02].*");
            due("shown, not counters, by " + answers, x.order(0, 2), shown ? 1 : 0);
            due("clay, not water, by " + answers, x.order(1, 0), missed ? 1 : 0);
            due("water, not clay, by " + answers, x.order(0, 1), 0);
            due("counters, not water, by " + answers, x.order(2, 0), 0);
        }
    }

    /** "two STUFFS or more are SHOWN or MISSED, and all of these are alike": each of four shown, missed, or neither. */
    private static void onceOfTwoStuffsOrMore() {
        for (int steps = 0; steps < 81; steps++) {
            SameWater x = steps();
            int shown = 0;
            int missed = 0;
            for (int stuff = 0, left = steps; stuff < 4; stuff++, left /= 3) {
                if (left % 3 == 1) {
                    x.answer(5, stuff, 1, false);
                    shown++;
                } else if (left % 3 == 2) {
                    x.answer(5, stuff, 2, false);
                    missed++;
                }
            }
            boolean alike = shown >= 2 && missed == 0 || missed >= 2 && shown == 0;
            due("once of " + shown + " shown, " + missed + " missed", x.once(), alike ? 32 : 0);
        }
    }

    private static void onceOfAllChildren() {
        SameWater x = steps();
        due("nobody", x.once(), 0);
        int bits = 0;
        for (int child = 7; child >= 0; child--) {
            int said = child % 3;
            x.answer(child, 2, said, false);
            due("one stuff of " + child, x.once(), bits);
            x.answer(child, 3, said, false);
            bits |= 1 << child;
            due("two stuffs of " + child, x.once(), bits);
        }
        due("all", x.once(), 255);
    }

    private static void onceOfUnchangedAlone() {
        SameWater x = steps();
        x.answer(0, 0, 1, false);
        x.answer(0, 1, 1, false);
        x.answer(0, 6, 0, false);
        due("a changed one is none", x.once(), 1);
        x.answer(1, 4, 1, false);
        x.answer(1, 5, 1, false);
        due("two changed ones are none", x.once(), 1);
        x.answer(0, 4, 2, false);
        due("nor do they miss it", x.once(), 1);
    }

    /** "how many CHILDREN SHOWED k and MISSED j": 0 to 8. */
    private static void orderFromNoneToAll() {
        SameWater x = steps();
        due("nobody", x.order(3, 0), 0);
        for (int child = 0; child < 8; child++) {
            x.answer(child, 3, 1, false);
            due("shown by " + child, x.order(3, 0), child);
            x.answer(child, 0, 2 * (child % 2), false);
            due("and missed by " + child, x.order(3, 0), child + 1);
            due("the other way", x.order(0, 3), 0);
        }
        for (int k = 0; k < 4; k++) {
            for (int j = 0; j < 4; j++) {
                due("order " + k + " " + j, x.order(k, j), k == j ? SameWater.BAD : k == 3 && j == 0 ? 8 : 0);
            }
        }
    }

    private static void orderNeedsBoth() {
        SameWater x = steps();
        x.answer(0, 0, 1, false);
        due("shown, not asked", x.order(0, 1), 0);
        x.answer(1, 1, 2, false);
        due("missed by another", x.order(0, 1), 0);
        x.answer(0, 5, 2, false);
        due("changed", x.order(0, 1), 0);
        x.answer(0, 1, 1, false);
        due("both shown", x.order(0, 1), 0);
        x.answer(1, 0, 0, false);
        due("both missed", x.order(0, 1), 0);
    }

    /** One asking for each stuff, unchanged; children at 24, 60, 61, 120. */
    private static SameWater ages() {
        SameWater x = new SameWater();
        x.child(24);
        x.child(60);
        x.child(61);
        x.child(120);
        for (int stuff = 0; stuff < 4; stuff++) {
            x.asking(stuff, 0, 1, false, 0, 3, 0);
        }
        x.asking(0, 0, 1, false, 0, 3, 1);
        x.asking(0, 0, 1, false, 0, 3, -1);
        return x;
    }

    /** "-5: there is none." */
    private static void ageOfNothing() {
        SameWater x = ages();
        for (int stuff = 0; stuff < 4; stuff++) {
            due("no answers", x.from(stuff, false), -5);
            due("no answers with a why", x.from(stuff, true), -5);
        }
        x.answer(0, 0, 0, true);
        x.answer(3, 0, 2, true);
        due("none the same", x.from(0, false), -5);
        SameWater y = ages();
        y.answer(3, 0, 1, false);
        due("without a why", y.from(0, true), -5);
    }

    /** "the least AGE (24 .. 120)". */
    private static void ageAt24And120() {
        SameWater x = ages();
        x.answer(0, 0, 1, false);
        due("of 24", x.from(0, false), 24);
        SameWater y = ages();
        y.answer(3, 0, 1, true);
        due("at 24 or above", y.from(0, false), 24);
        y.answer(2, 0, 2, true);
        due("above 61", y.from(0, false), 62);
        y.answer(3, 0, 2, true);
        due("1 of 2 at 120", y.from(0, false), -5);
        SameWater z = new SameWater();
        z.child(119);
        z.child(120);
        z.asking(0, 0, 1, false, 0, 3, 0);
        z.answer(0, 0, 0, false);
        z.answer(1, 0, 1, false);
        due("120 alone", z.from(0, false), 120);
        SameWater w = new SameWater();
        w.child(118);
        w.child(119);
        w.asking(0, 0, 1, false, 0, 3, 0);
        w.answer(0, 0, 0, false);
        w.answer(1, 0, 1, false);
        due("119 and above", w.from(0, false), 119);
    }

    /** "more than half": so many of so many. */
    private static void ageOfMoreThanHalf() {
        for (int all = 1; all <= 40; all++) {
            for (int same : new int[] {all / 2 - 1, all / 2, all / 2 + 1, all}) {
                if (same >= 0 && same <= all) {
                    SameWater x = ages();
                    for (int i = 0; i < all; i++) {
                        x.answer(1, 2, i < same ? 1 : i % 2 * 2, false);
                    }
                    due(same + " of " + all, x.from(2, false), same * 2 > all ? 24 : -5);
                }
            }
        }
    }

    private static void ageIsTheLeast() {
        SameWater x = ages();
        x.answer(1, 0, 0, false);
        x.answer(2, 0, 1, false);
        due("above 60", x.from(0, false), 61);
        x.answer(0, 0, 1, false);
        due("2 of 3 from 24 on", x.from(0, false), 24);
        x.answer(3, 0, 0, false);
        due("2 of 4", x.from(0, false), -5);
        x.answer(3, 0, 1, false);
        due("3 of 5 at 24, 2 of 4 at 25, 2 of 3 at 61", x.from(0, false), 24);
        x.answer(0, 0, 2, false);
        due("3 of 6 at 24, 2 of 3 at 61", x.from(0, false), 61);
        x.grow(30);
        due("the ages then", x.from(0, false), 61);
    }

    /** "(and with a WHY, if that is needed)": of all answers, not of those with a why. */
    private static void ageWithAWhy() {
        SameWater x = ages();
        x.answer(1, 0, 1, true);
        x.answer(1, 0, 1, false);
        due("1 of 2 with a why", x.from(0, true), -5);
        due("2 of 2", x.from(0, false), 24);
        x.answer(1, 0, 1, true);
        due("2 of 3 with a why", x.from(0, true), 24);
        x.answer(1, 0, 0, true);
        due("a why of another answer is none", x.from(0, true), -5);
        due("3 of 4", x.from(0, false), 24);
        x.answer(2, 0, 1, true);
        due("3 of 5", x.from(0, true), 24);
    }

    /** "of ANSWERS .. to ASKINGS of it that are not changed". */
    private static void ageOfItsOwnAnswers() {
        SameWater x = ages();
        x.answer(1, 0, 1, false);
        for (int i = 0; i < 3; i++) {
            x.answer(1, 4, 0, false);
            x.answer(1, 5, 2, false);
            x.answer(1, 3, 0, false);
        }
        due("not the changed, not another stuff's", x.from(0, false), 24);
        due("weight", x.from(3, false), -5);
        SameWater y = ages();
        y.answer(1, 4, 1, true);
        y.answer(1, 5, 1, true);
        y.answer(1, 1, 1, true);
        due("of changed ones none", y.from(0, false), -5);
        due("of clay", y.from(1, true), 24);
    }

    private static SameWater taught(int age, String law) {
        SameWater x = children(2, age);
        Check.law(x, 2, 0, law);
        x.teach(0, 0);
        return x;
    }

    /** "at an AGE of n months (0 .. 99) more than now". */
    private static void spreadFrom0To99() {
        String law = "from 1 51;over 0 2 1;over 0 3 99;from 3 999";
        SameWater x = taught(50, law);
        due("n -1", x.spread(0, 0, -1), SameWater.BAD);
        due("n 0", x.spread(0, 0, 0), 1);
        due("n 1", x.spread(0, 0, 1), 7);
        due("n 98", x.spread(0, 0, 98), 7);
        due("n 99", x.spread(0, 0, 99), 15);
        due("n 100", x.spread(0, 0, 100), SameWater.BAD);
        due("least", x.spread(0, 0, Integer.MIN_VALUE), SameWater.BAD);
        due("greatest", x.spread(0, 0, Integer.MAX_VALUE), SameWater.BAD);
        for (int n = 0; n <= 99; n++) {
            SameWater y = taught(24, "from 0 999;from 1 " + (24 + n) + ";over 0 2 " + n + ";from 2 999;from 3 999");
            due("at " + n, y.spread(0, 0, n), 7);
            due("one less than " + n, y.spread(0, 0, n - 1), n == 0 ? SameWater.BAD : 1);
        }
    }

    /** "(also above 120)". */
    private static void spreadAbove120() {
        String law = "from 0 999;from 1 121;from 2 219;from 3 220;over 0 3 99";
        SameWater x = taught(120, law);
        due("120", x.spread(0, 0, 0), 1);
        due("121", x.spread(0, 0, 1), 3);
        due("218", x.spread(0, 0, 98), 3);
        due("219", x.spread(0, 0, 99), 15);
        SameWater y = taught(120, "from 1 219;from 2 220;from 3 221");
        due("from 219 at 219", y.spread(0, 0, 99), 3);
        due("from 219 at 218", y.spread(0, 0, 98), 1);
        SameWater z = taught(119, "over 0 1 1;over 0 2 2;from 1 999;from 2 999;from 3 999");
        z.grow(60);
        due("now 120", z.spread(0, 0, 0), 3);
        due("then 121", z.spread(0, 0, 1), 7);
    }

    /** "STATE: the CHILD was TAUGHT nothing": any of the four is enough. */
    private static void spreadOfTheTaughtAlone() {
        SameWater x = taught(90, "slip 0");
        due("the other child", x.spread(0, 1, 0), SameWater.STATE);
        due("though it keeps all", x.keeps(0, 1, 3), 1);
        due("the taught one", x.spread(0, 0, 0), 15);
        for (int stuff = 0; stuff < 4; stuff++) {
            SameWater y = children(1, 30);
            Check.law(y, 6, 0, "slip 0");
            due("ahead of " + stuff, y.spread(0, 0, 0), SameWater.STATE);
            y.teach(0, stuff);
            due("taught " + stuff, y.spread(0, 0, 0), 1 << stuff);
        }
    }

    private static void spreadChangesNothing() {
        SameWater x = taught(50, "over 0 1 9");
        due("9 months", x.spread(0, 0, 9), 3);
        due("its age", x.age(0), 50);
        due("clay now", x.keeps(0, 0, 1), 0);
        due("clay not taught", x.teach(0, 1), 1);
    }

    /** What only the last of 40 answers shows. */
    private static void theFortiethAnswerAlone() {
        for (int truly = 0; truly <= 1; truly++) {
            SameWater x = children(8, 50);
            x.asking(0, NOBODY, 1, false, 0, 1, 0);
            x.asking(1, BEAR, 1, false, 0, 1, truly);
            for (int i = 0; i < 38; i++) {
                x.answer(i % 7, 0, 1, false);
            }
            x.answer(7, 0, 1, false);
            due("39 fool nobody", x.fooled(), 0);
            due("39 are of one stuff", x.once(), 0);
            due("39 are of no clay", x.from(1, true), -5);
            moves(x, 1, 0, 1);
            x.answer(7, 1, 1, true);
            due("fooled", x.fooled(), truly == 1 ? 128 : 0);
            due("all at once", x.once(), truly == 1 ? 0 : 128);
            due("clay", x.from(1, true), truly == 1 ? -5 : 24);
            moves(x, 1, truly == 1 ? 0 : 1, 1);
        }
        SameWater x = children(8, 50);
        x.asking(0, NOBODY, 1, false, 0, 1, 0);
        x.asking(1, NOBODY, 1, false, 0, 1, 0);
        for (int i = 0; i < 39; i++) {
            x.answer(7, 0, 1, false);
        }
        due("clay is not missed", x.order(0, 1), 0);
        x.answer(7, 1, 0, false);
        due("clay is missed", x.order(0, 1), 1);
    }
}
