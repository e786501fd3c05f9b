/** The edges of section 1's sentences on children, askings, answers and the tape's bytes: each has a test. */
public final class TermsEdgesTest {
    private static final Check CHECK = new Check();
    private static final int LEAST = Integer.MIN_VALUE, GREATEST = Integer.MAX_VALUE;

    /** The columns of an asking, as of() numbers them. */
    private static final int STUFF = 0, MOVED = 1, TIMES = 2, WORD = 4, LOOKS = 5, TRULY = 6;

    public static void main(String[] args) {
        childrenEightAtMost();
        ageOfMonths();
        askingsSixteenAtMost();
        rangesOfAskings();
        endToCountOrToEat();
        answersFortyAtMost();
        saidLessTheSameMore();
        whyOrNot();
        ageThatItHadThen();
        tapeOf120Bytes();
        tapeFullByEachNumberOfBytes();
        lowestBytesHighestFirst();
        lawsEightAtMost();
        kindsOfLaws();
        numbersOfLaws();
        whatsOfLaws();
        CHECK.end();
    }

    private static void due(String call, long got, long want) {
        CHECK.due(call, got, want);
    }

    /** "CHILDREN are numbered from 0 on, 8 at most". */
    private static void childrenEightAtMost() {
        SameWater x = new SameWater();
        due("none yet", x.age(0), SameWater.NONE);
        for (int i = 0; i < 8; i++) {
            due("child " + i, x.child(30 + i), i);
            due("children of " + i, x.count(0), i + 1);
            due("age of " + i, x.age(i), 30 + i);
            due("age of the next", x.age(i + 1), SameWater.NONE);
        }
        due("the 9th", x.child(30), SameWater.FULL);
        due("children", x.count(0), 8);
        due("the last stays", x.age(7), 37);
        due("grow tells all 8", x.grow(1), 8);
        due("age of the last", x.age(7), 38);
    }

    /** "an AGE in months (24 .. 120)". */
    private static void ageOfMonths() {
        for (int age : new int[] {24, 25, 119, 120}) {
            SameWater x = new SameWater();
            due("child of " + age, x.child(age), 0);
            due("its age " + age, x.age(0), age);
        }
        for (int age : new int[] {23, 121, 0, -24, LEAST, GREATEST}) {
            SameWater x = new SameWater();
            due("child of " + age, x.child(age), SameWater.BAD);
            due("no child of " + age, x.count(0), 0);
        }
    }

    /** "ASKINGS are numbered from 0 on, 16 at most". */
    private static void askingsSixteenAtMost() {
        SameWater x = new SameWater();
        due("none yet", x.of(0, 0), -1001);
        for (int i = 0; i < 16; i++) {
            due("asking " + i, x.asking(i % 4, 0, 1, false, 0, i - 9, 0), i);
            due("askings of " + i, x.count(1), i + 1);
            due("looks of " + i, x.of(i, LOOKS), i - 9);
            due("of the next", x.of(i + 1, LOOKS), -1001);
        }
        due("the 17th", x.asking(0, 0, 1, false, 0, 0, 0), SameWater.FULL);
        due("askings", x.count(1), 16);
        due("the last stays", x.of(15, LOOKS), 6);
        x.child(50);
        Check.law(x, 1, 0, "slip 0");
        due("the last is told of", x.tells(0, 0, 15), 2);
        due("the last is answered", x.answer(0, 15, 2, false), 0);
    }

    /** An asking of the least numbers, but for one column. */
    private static int asked(SameWater x, int column, int value) {
        int[] a = {0, 0, 1, 0, 0, 0, 0};
        a[column] = value;
        return x.asking(a[0], a[1], a[2], a[3] == 1, a[4], a[5], a[6]);
    }

    private static void range(String name, int column, int least, int most, int refusal) {
        SameWater x = new SameWater();
        for (int value : new int[] {least - 1, most + 1, LEAST, GREATEST}) {
            due(name + " " + value, asked(x, column, value), refusal);
            due("no asking of " + name + " " + value, x.count(1), 0);
        }
        // At most 16 of them at once: looks have more.
        for (int value = least; value <= most; value++) {
            SameWater y = new SameWater();
            due(name + " " + value, asked(y, column, value), 0);
            for (int what = 0; what < 7; what++) {
                due(name + " " + value + " what " + what, y.of(0, what), what == column ? value : what == TIMES ? 1 : 0);
            }
        }
    }

    /** STUFF "0 water, 1 clay, 2 counters, 3 weight", MOVED "0 a man, 1 a bear, 2 nobody", TIMES "1, 2", .. */
    private static void rangesOfAskings() {
        range("stuff", STUFF, 0, 3, SameWater.NONE);
        range("moved", MOVED, 0, 2, SameWater.NONE);
        range("times", TIMES, 1, 2, SameWater.BAD);
        range("word", WORD, 0, 3, SameWater.BAD);
        range("looks", LOOKS, -9, 9, SameWater.BAD);
        range("truly", TRULY, -1, 1, SameWater.BAD);
    }

    /** "an END (0 to count, 1 to eat)". */
    private static void endToCountOrToEat() {
        SameWater x = new SameWater();
        x.asking(0, 0, 1, false, 0, 0, 0);
        x.asking(0, 0, 1, true, 0, 0, 0);
        due("to count", x.of(0, 3), 0);
        due("to eat", x.of(1, 3), 1);
    }

    /** A child of 50 months and an asking of water that is the same and looks more. */
    private static SameWater oneAsked() {
        SameWater x = new SameWater();
        x.child(50);
        x.asking(0, 0, 1, false, 0, 3, 0);
        return x;
    }

    /** "ANSWERS are numbered from 0 on, 40 at most". */
    private static void answersFortyAtMost() {
        SameWater x = oneAsked();
        due("none yet", x.answered(0, 0), SameWater.NONE);
        for (int i = 0; i < 40; i++) {
            due("answer " + i, x.answer(0, 0, i % 3, false), i);
            due("said " + i, x.answered(i, 2), i % 3);
            due("said next", x.answered(i + 1, 2), SameWater.NONE);
        }
        due("the 41st", x.answer(0, 0, 1, false), SameWater.FULL);
        due("answers", x.count(2), 40);
        due("the last stays", x.answered(39, 2), 0);
        // All 40 are counted in what they show: 13 of them are the same.
        Check.law(x, 0, 0, "slip 0");
        due("right", x.right(0), 13);
        due("chance of the last", x.chance(0, 39, 0), 0);
        due("same of all", x.moves(0, 0), -13);
        due("all", x.moves(0, 1), 40);
    }

    /** "0 less, 1 the same, 2 more". */
    private static void saidLessTheSameMore() {
        for (int said : new int[] {-1, 3, LEAST, GREATEST}) {
            SameWater x = oneAsked();
            due("said " + said, x.answer(0, 0, said, false), SameWater.BAD);
            due("not said " + said, x.count(2), 0);
        }
        for (int said = 0; said <= 2; said++) {
            SameWater x = oneAsked();
            due("said " + said, x.answer(0, 0, said, false), 0);
            due("it said " + said, x.answered(0, 2), said);
            Check.law(x, 0, 0, "say " + said + " a>0");
            due("as told " + said, x.right(0), 1);
        }
    }

    /** "with a WHY or not". */
    private static void whyOrNot() {
        SameWater x = oneAsked();
        x.answer(0, 0, 1, false);
        x.answer(0, 0, 1, true);
        due("without", x.answered(0, 3), 0);
        due("with", x.answered(1, 3), 1);
    }

    /** "at the AGE that it had then". */
    private static void ageThatItHadThen() {
        SameWater x = new SameWater();
        x.child(24);
        x.child(120);
        x.asking(0, 0, 1, false, 0, 0, 0);
        x.answer(0, 0, 1, false);
        x.answer(1, 0, 1, false);
        x.grow(60);
        x.answer(0, 0, 1, false);
        x.answer(1, 0, 1, false);
        x.grow(60);
        x.answer(0, 0, 1, false);
        int[] ages = {24, 120, 84, 120, 120};
        for (int i = 0; i < ages.length; i++) {
            due("age then " + i, x.answered(i, 4), ages[i]);
        }
    }

    /** "THE TAPE (bytes, 120 at most)". */
    private static void tapeOf120Bytes() {
        SameWater x = new SameWater();
        due("empty", x.count(4), 0);
        for (int i = 1; i <= 120; i++) {
            due("byte " + i, x.feed('f', 1), i);
        }
        due("byte 121", x.feed('f', 1), SameWater.FULL);
        due("full", x.count(4), 120);
        // The 120th byte is read as well as the first.
        SameWater y = new SameWater();
        due("120 bytes", Check.write(y, "say 2 " + "a=1|".repeat(28) + "k="), 120);
        due("too early at 120", y.law(0, 0), -130);
        due("120 bytes", Check.write(y, "say 2 " + "a=1|".repeat(27) + "!!!k=3"), 120);
        due("a law of 120 bytes", y.law(0, 0), 0);
        y.child(50);
        y.asking(0, 1, 1, false, 0, 0, 0);
        y.asking(3, 1, 1, false, 0, 0, 0);
        due("its last byte counts", y.tells(0, 0, 0), 2);
        due("its last byte counts, stuff 3", y.tells(0, 0, 1), 1);
        due("empty again", y.count(4), 0);
        due("119 bytes", Check.write(y, "say 2 " + "a=1|".repeat(28) + "k"), 119);
        due("the last is none of <=>", y.feed('9', 1), 120);
        due("fault at the last byte", y.law(0, 0), -129);
    }

    /** FULL takes nothing: the last n that has place, and the first that has not, for each n. */
    private static void tapeFullByEachNumberOfBytes() {
        for (int n = 1; n <= 8; n++) {
            SameWater x = new SameWater();
            for (int i = 0; i < 120 - n; i++) {
                x.feed('s', 1);
            }
            due(n + " to the end", x.feed(0, n), 120);
            SameWater y = new SameWater();
            Check.write(y, "slip 1");
            for (int i = 6; i < 121 - n; i++) {
                y.feed(' ', 1);
            }
            due(n + " beyond the end", y.feed(0, n), SameWater.FULL);
            due("as before " + n, y.count(4), 121 - n);
            due("bytes as before " + n, y.law(0, 0), -16);
        }
        for (int n : new int[] {0, 9, -1, 64, LEAST, GREATEST}) {
            SameWater x = new SameWater();
            due(n + " bytes", x.feed(0x66726f6d20302030L, n), SameWater.BAD);
            due("none of " + n, x.count(4), 0);
        }
    }

    /** "The n lowest bytes of w, the highest first", whatever stands above them. */
    private static void lowestBytesHighestFirst() {
        String text = "slip 123";
        for (int n = 1; n <= 8; n++) {
            for (long above : new long[] {0, -1}) {
                SameWater x = new SameWater();
                Check.write(x, text.substring(0, 8 - n));
                long w = above;
                for (int i = 8 - n; i < 8; i++) {
                    w = w << 8 | text.charAt(i);
                }
                due(n + " bytes", x.feed(w, n), 8);
                due("law by " + n, x.law(0, 0), 0);
                due("slip by " + n, x.told(0, 2), 100);
            }
        }
        SameWater x = new SameWater();
        x.feed(-1, 8);
        due("bytes of all bits", x.law(0, 0), -10);
    }

    /** "LAWS are numbered from 0 on, 8 at most". */
    private static void lawsEightAtMost() {
        SameWater x = new SameWater();
        due("none yet", x.told(0, 0), SameWater.NONE);
        for (int i = 0; i < 8; i++) {
            due("law " + i, Check.law(x, i % 7, i, "slip " + i), i);
            due("a fault is none", Check.law(x, 0, 0, "x"), i < 7 ? -10 : SameWater.FULL);
            due("laws of " + i, x.count(3), i + 1);
            due("slip of " + i, x.told(i, 2), i);
            due("told of the next", x.told(i + 1, 2), SameWater.NONE);
        }
        due("the 9th", Check.law(x, 0, 0, "slip 1"), SameWater.FULL);
        due("laws", x.count(3), 8);
        due("the last stays", x.told(7, 2), 7);
        due("the last acts", x.act(7, 0, 1), 8);
        x.child(50);
        x.asking(0, 0, 1, false, 0, 0, 0);
        due("the last tells", x.tells(7, 0, 0), 1);
    }

    /** "each of a KIND: 0 ANSWER .. 6 EACH". */
    private static void kindsOfLaws() {
        for (int kind = 0; kind <= 6; kind++) {
            SameWater x = new SameWater();
            due("kind " + kind, Check.law(x, kind, 0, "slip 0"), 0);
            due("it is of kind " + kind, x.told(0, 0), kind);
        }
        for (int kind : new int[] {-1, 7, LEAST, GREATEST}) {
            SameWater x = new SameWater();
            due("kind " + kind, Check.law(x, kind, 0, "slip 0"), SameWater.NONE);
            due("no law of kind " + kind, x.count(3), 0);
            due("the tape stays", x.law(0, 0), 0);
        }
    }

    /** "and a number v (0 .. 9)". */
    private static void numbersOfLaws() {
        for (int v = 0; v <= 9; v++) {
            SameWater x = new SameWater();
            due("v " + v, Check.law(x, 2, v, "slip 0"), 0);
            due("its v " + v, x.told(0, 1), v);
        }
        for (int v : new int[] {-1, 10, LEAST, GREATEST}) {
            SameWater x = new SameWater();
            due("v " + v, Check.law(x, 2, v, "slip 0"), SameWater.BAD);
            due("no law of v " + v, x.count(3), 0);
            due("the tape stays", x.law(0, 0), 0);
        }
    }

    /** "Of a LAW what 0 KIND, 1 v, 2 SLIP, 10 and k". */
    private static void whatsOfLaws() {
        SameWater x = new SameWater();
        Check.law(x, 5, 7, "slip 3;from 0 30;from 1 31;from 2 32;from 3 33");
        int[] due = {5, 7, 3, -1, -1, -1, -1, -1, -1, -1, 30, 31, 32, 33, -1};
        for (int what = 0; what < due.length; what++) {
            due("told " + what, x.told(0, what), due[what]);
        }
        due("told -1", x.told(0, -1), SameWater.NONE);
        due("told least", x.told(0, LEAST), SameWater.NONE);
        due("told least and 10", x.told(0, LEAST + 10), SameWater.NONE);
        due("told greatest", x.told(0, GREATEST), SameWater.NONE);
    }
}
