/**
 * Runs of 512 calls on one object, in which CHILDREN, ASKINGS, ANSWERS, LAWS and THE TAPE become full: the last calls
 * are answered like the first ones. And objects that are used by turns: each as if there were no other.
 */
public final class FullRunsTest {
    private static final Check CHECK = new Check();
    private static final int CALLS = 512;
    private static final int ANSWER = 0, LENGTH = 1, KEPT = 2, AGAIN = 3, WORDED = 4, WANTING = 5, EACH = 6;

    /** What the last answer of a full object is like. */
    private static final int MORE = 0, FOOLED = 1, SAME = 2;

    public static void main(String[] args) {
        for (int last : new int[] {MORE, FOOLED, SAME}) {
            lastOnesAtOnceAndAtTheEnd(last);
        }
        looksAreTheSameTillTheLastCall();
        changesTillTheLastCall();
        undoneAndFilledTillTheLastCall();
        tapesFilledTillTheLastCall();
        faultsTillTheLastCall();
        grownTillTheLastCall();
        actsTillTheLastCall();
        eightLawsOfWholeTapes();
        objectsByTurns();
        objectsInsideOneAnother();
        CHECK.end();
    }

    // ---- an object that is full of everything, the last of each being unlike the others

    /** Answer 37 is child 7's to asking 0, 38 to a man who asks twice, 39 is child 7's to asking 15. */
    private static Script full(int last) {
        Script s = new Script();
        for (int i = 0; i < 8; i++) {
            int child = i;
            s.due("child " + i, i, x -> x.child(child == 7 ? 60 : 50));
        }
        for (int i = 0; i < 14; i++) {
            s.due("asking " + i, i, x -> x.asking(0, 2, 1, false, 0, 0, 0));
        }
        s.due("asking 14", 14, x -> x.asking(0, 0, 2, false, 0, 0, 0));
        s.due("asking 15", 15, x -> x.asking(1, 0, 2, true, 3, 5, last == FOOLED ? 1 : 0));
        for (int i = 0; i < 6; i++) {
            s.law(ANSWER, i, i == 5 ? "say 0 k=0;say 2 k=1;slip 100" : "slip 50", i);
        }
        s.law(ANSWER, 6, "slip 1", 6);
        s.law(LENGTH, 4, "over 3 2 6", 7);
        for (int i = 0; i < 37; i++) {
            int answer = i;
            s.due("answer " + i, i, x -> x.answer(answer % 7, answer % 14, 1, false));
        }
        s.due("answer 37", 37, x -> x.answer(7, 0, 1, false));
        s.due("answer 38", 38, x -> x.answer(6, 14, 1, false));
        s.due("answer 39", 39, x -> x.answer(7, 15, last == MORE ? 2 : 1, last == SAME));
        s.due("teach", 1, x -> x.teach(7, 3));
        s.write("from 3 99;".repeat(12));
        return s.due("image", 8, SameWater::image);
    }

    /** Nothing more has place. */
    private static Script refused() {
        Script s = new Script();
        s.due("a 9th child", SameWater.FULL, x -> x.child(50));
        s.due("a 17th asking", SameWater.FULL, x -> x.asking(1, 1, 1, false, 1, 1, 1));
        s.due("a 41st answer", SameWater.FULL, x -> x.answer(7, 15, 2, true));
        s.due("a 9th law", SameWater.FULL, x -> x.law(6, 9));
        s.due("a 121st byte", SameWater.FULL, x -> x.feed('1', 1));
        s.due("taught before", 0, x -> x.teach(7, 3));
        int[] counts = {8, 16, 40, 8, 120};
        for (int what = 0; what < counts.length; what++) {
            int of = what;
            s.due("count " + what, counts[what], x -> x.count(of));
        }
        return s;
    }

    /** Looks that only the last child, asking, answer and law decide. */
    private static Script lastOnes(int last) {
        Script s = new Script();
        s.due("age of the last", 60, x -> x.age(7));
        s.due("looks of the last", 5, x -> x.of(15, 5));
        s.due("said last", last == MORE ? 2 : 1, x -> x.answered(39, 2));
        s.due("why of the last", last == SAME ? 1 : 0, x -> x.answered(39, 3));
        s.due("age of the last then", 60, x -> x.answered(39, 4));
        s.due("v of the last", 4, x -> x.told(7, 1));
        s.due("from without", 84, x -> x.told(7, 13));
        s.due("keeps what it was taught", 1, x -> x.keeps(7, 7, 3));
        s.due("not over yet", 0, x -> x.keeps(7, 7, 2));
        s.due("over 5 months later", 8, x -> x.spread(7, 7, 5));
        s.due("over 6 months later", 12, x -> x.spread(7, 7, 6));
        s.due("taught nothing", SameWater.STATE, x -> x.spread(7, 6, 6));
        s.due("the last law tells", 2, x -> x.tells(7, 7, 15));
        s.due("another tells", 1, x -> x.tells(6, 7, 15));
        s.due("parts: asking 15, for all children", 8, x -> x.parts(0, 7));
        s.due("next", 15, x -> x.next(7));
        s.due("right by the last law", last == MORE ? 40 : 39, x -> x.right(7));
        s.due("right by another", last == MORE ? 39 : 40, x -> x.right(0));
        s.due("rule of the last child", last == MORE ? 7 : 0, x -> x.rule(7));
        s.due("the last is as told, which slips alone can't be", last == MORE ? 39 : -5, x -> x.cannot(5));
        s.due("the last is none that law 7 tells", last == MORE ? -5 : 39, x -> x.cannot(7));
        s.due("chance of the last", last == MORE ? 1 : 0, x -> x.chance(7, 39, 0));
        s.due("the last of a set", 7, x -> x.likeliest(1 << 29));
        s.due("odds of 8", 1, x -> x.odds(7, 0x3fc00000, 0));
        s.due("odds of 8, below", 256, x -> x.odds(0, 0x3fc00000, 1));
        s.due("no 31st", SameWater.BAD, x -> x.likeliest(1 << 30));
        s.due("twice above", 1, x -> x.moves(0, 0));
        s.due("twice below", last == MORE ? 2 : 1, x -> x.moves(0, 1));
        s.due("bear above", -1, x -> x.moves(1, 0));
        s.due("bear below", last == MORE ? 2 : 1, x -> x.moves(1, 1));
        s.due("fooled", last == FOOLED ? 128 : 0, SameWater::fooled);
        s.due("all at once", last == SAME ? 128 : 0, SameWater::once);
        s.due("order", last == MORE ? 1 : 0, x -> x.order(0, 1));
        s.due("from", last == SAME ? 24 : -5, x -> x.from(1, false));
        s.due("from with a why", last == SAME ? 24 : -5, x -> x.from(1, true));
        s.due("act of the first law", 9, x -> x.act(0, 0, 9));
        s.due("act", 3 * 9 + 7 - 4, x -> x.act(7, 1, 9));
        s.due("bodies", 3, x -> x.count(5));
        s.due("the first body", 2, x -> x.trace(0));
        s.due("the next body", 11, x -> x.trace(1));
        s.due("the last body", 1, x -> x.trace(2));
        s.due("as", 4, x -> x.as(7, 0));
        return s.due("undo", 8, SameWater::undo);
    }

    private static void lastOnesAtOnceAndAtTheEnd(int last) {
        Script ending = new Script().then(refused()).then(lastOnes(last)).then(refused());
        Script s = full(last).then(ending);
        int first = s.size() - ending.size();
        s.upTo(CALLS - ending.size(), first).then(ending);
        CHECK.due("calls", s.size(), CALLS);
        s.play(new SameWater(), CHECK, "full " + last);
    }

    // ---- an object of which no two rows are alike

    private static Script mixed() {
        Script s = new Script();
        for (int i = 0; i < 8; i++) {
            int age = 30 + 11 * i;
            s.due("child " + i, i, x -> x.child(age));
        }
        for (int i = 0; i < 16; i++) {
            int a = i;
            s.due("asking " + i, i, x -> x.asking(a % 4, a % 3, 1 + a / 2 % 2, a > 7, 3 - a % 4, a - 8, (a + 1) % 5 == 0 ? -1 : a % 7 == 3 ? 1 : 0));
        }
        String[] laws = {"slip 3", "from 0 40;slip 7", "from 1 50;over 0 1 9", "from 2 45;slip 20", "slip 10;say 0 a<40",
            "from 3 60;say 2 k=3&e=1", "from 0 30;from 1 60;from 2 70", "say 1 c=0;say 2 t=2"};
        for (int i = 0; i < 8; i++) {
            s.law(i % 7, i, laws[i], i);
        }
        for (int i = 0; i < 40; i++) {
            int a = i;
            s.due("answer " + i, i, x -> x.answer(a * 3 % 8, a * 5 % 16, a % 4 == 3 ? 1 : a % 3, a % 2 == 0));
        }
        for (int i = 0; i < 6; i++) {
            int a = i;
            s.due("teach " + i, 1, x -> x.teach(a + 1, a % 4));
        }
        int[][] told = {{0, 0, 3, 84, 84, 84, 84}, {1, 1, 7, 40, 84, 84, 84}, {2, 2, 0, 84, 50, 84, 84},
            {3, 3, 20, 84, 84, 45, 84}, {4, 4, 10, 84, 84, 84, 84}, {5, 5, 0, 84, 84, 84, 60}, {6, 6, 0, 30, 60, 70, 84},
            {0, 7, 0, 84, 84, 84, 84}};
        for (int i = 0; i < 8; i++) {
            for (int what = 0; what < 7; what++) {
                int law = i;
                int of = what < 3 ? what : what + 7;
                s.due("told " + law + " " + of, told[i][what], x -> x.told(law, of));
            }
        }
        return s.write("slip 1;".repeat(17) + "s");
    }

    /** Each call that changes nothing, on the first, on the last and on none. */
    private static Script looks() {
        Script s = new Script();
        for (int which = 0; which < 3; which++) {
            int child = new int[] {0, 7, 8}[which];
            int asking = new int[] {0, 15, 16}[which];
            int answer = new int[] {0, 39, 40}[which];
            int law = new int[] {6, 7, 8}[which];
            int set = new int[] {0x155, 0x2aaa0000, 0x40000000}[which];
            s.look("age", x -> x.age(child));
            s.look("of", x -> x.of(asking, child));
            s.look("of", x -> x.of(asking, 6));
            s.look("answered", x -> x.answered(answer, 1));
            s.look("answered", x -> x.answered(answer, 4));
            s.look("told", x -> x.told(law, 0));
            s.look("told", x -> x.told(law, 11));
            s.look("keeps", x -> x.keeps(law, child, 1));
            s.look("tells", x -> x.tells(law, child, asking));
            s.look("chance", x -> x.chance(law, answer, 0));
            s.look("chance", x -> x.chance(law, answer, 1));
            s.look("odds", x -> x.odds(law, set, 0));
            s.look("odds", x -> x.odds(law, set, 1));
            s.look("cannot", x -> x.cannot(law));
            s.look("right", x -> x.right(law));
            s.look("likeliest", x -> x.likeliest(set));
            s.look("rule", x -> x.rule(child));
            s.look("parts", x -> x.parts(law, 3));
            s.look("next", x -> x.next(child));
            s.look("moves", x -> x.moves(law - 6, 0));
            s.look("moves", x -> x.moves(law - 6, 1));
            s.look("order", x -> x.order(law - 6, 3));
            s.look("from", x -> x.from(law - 6, law > 6));
            s.look("spread", x -> x.spread(law, child - 1, 30));
            s.look("act", x -> x.act(law, law - 6, 77));
            s.look("bodies", x -> x.count(5));
            s.look("trace", x -> x.trace(1));
            s.look("as", x -> x.as(law, 2));
        }
        s.look("fooled", SameWater::fooled);
        return s.look("once", SameWater::once);
    }

    /** Answers of a script's part once more: they are those of its first time. */
    private static void alike(String run, Script s, long[] got, int first, int period) {
        for (int i = first + period; i < got.length; i++) {
            CHECK.due(run + ", call " + i + " like the first: " + s.name(i), got[i], got[i - period]);
        }
    }

    private static void looksAreTheSameTillTheLastCall() {
        Script looks = looks();
        Script s = mixed().then(looks);
        int first = s.size() - looks.size();
        s.upTo(CALLS, first);
        long[] got = s.play(new SameWater(), CHECK, "looks");
        CHECK.due("looks are made three times", (CALLS - first) / looks.size() >= 3 ? 1 : 0, 1);
        alike("looks", s, got, first, looks.size());
    }

    // ---- other rows of calls, till the 512th

    /** Full, refused, undone to nothing and filled again: the last of all fills as the first one. */
    private static void undoneAndFilledTillTheLastCall() {
        Script round = new Script().then(full(MORE)).then(refused());
        // The image of full() would be another: it is taken by itself, of nobody.
        SameWater x = new SameWater();
        CHECK.due("image of nobody", x.image(), 0);
        int calls = 1;
        while (calls + round.size() <= CALLS) {
            for (int i = 0; i < round.size(); i++) {
                if (!round.name(i).equals("image")) {
                    round.play(x, i, CHECK, "filled again, " + calls);
                    calls++;
                }
            }
            CHECK.due("undone", x.undo(), 0);
            calls++;
            CHECK.due("nobody", x.count(0), 0);
            CHECK.due("no answers", x.count(2), 0);
            CHECK.due("empty", x.count(4), 0);
            calls += 3;
        }
        CHECK.due("filled more than twice", calls > 2 * round.size() ? 1 : 0, 1);
    }

    /** Growing, teaching, acts and images go on, though nothing more has place. */
    private static void changesTillTheLastCall() {
        Script s = mixed().then(refusedOfMixed());
        for (int round = 0; s.size() + 12 <= CALLS; round++) {
            int oldest = Math.min(120, 30 + 11 * 7 + (round + 1) / 2 + (round + 2) / 2);
            int first = 30 + (round + 1) / 2 + (round + 2) / 2;
            s.due("grow", 8, x -> x.grow(1));
            s.due("age of the last", oldest, x -> x.age(7));
            s.due("age of the first", Math.min(120, first), x -> x.age(0));
            s.due("age then", 30, x -> x.answered(0, 4));
            s.due("taught", round == 0 ? 1 : 0, x -> x.teach(0, 3));
            if (round % 2 == 0) {
                s.due("image", 8, SameWater::image);
                s.due("grow", 8, x -> x.grow(60));
                s.due("undo", 8, SameWater::undo);
                s.due("age of the first again", Math.min(120, first), x -> x.age(0));
            } else {
                s.due("grow", 8, x -> x.grow(1));
                s.due("undo", 8, SameWater::undo);
                s.due("age of the first undone", Math.min(120, first - 1), x -> x.age(0));
                s.due("grow", 8, x -> x.grow(1));
            }
            s.due("full", SameWater.FULL, x -> x.answer(0, 0, 0, false));
            s.due("answers", 40, x -> x.count(2));
        }
        s.upTo(CALLS, mixed().size());
        // The rest of the calls are those that are refused.
        s.play(new SameWater(), CHECK, "changes");
    }

    private static Script refusedOfMixed() {
        Script s = new Script();
        s.due("child", SameWater.FULL, x -> x.child(24));
        s.due("child", SameWater.BAD, x -> x.child(23));
        s.due("asking", SameWater.FULL, x -> x.asking(0, 0, 1, true, 0, 0, 0));
        s.due("answer", SameWater.FULL, x -> x.answer(0, 0, 0, true));
        s.due("answer", SameWater.BAD, x -> x.answer(0, 0, 3, true));
        s.due("answer", SameWater.NONE, x -> x.answer(8, 0, 0, true));
        s.due("law", SameWater.FULL, x -> x.law(0, 0));
        s.due("law", SameWater.BAD, x -> x.law(0, 10));
        s.due("law", SameWater.NONE, x -> x.law(7, 0));
        s.due("feed", SameWater.FULL, x -> x.feed(0, 8));
        s.due("feed", SameWater.BAD, x -> x.feed(0, 9));
        return s.due("tape", 120, x -> x.count(4));
    }

    /** A tape that is full is refused, read, and filled again; from the 9th law on it stays as it is. */
    private static void tapesFilledTillTheLastCall() {
        Script s = new Script();
        for (int law = 0; law < 8; law++) {
            int number = law;
            s.write("say 2 " + "a=1|".repeat(27) + "!!!k=" + law % 4);
            s.due("full", SameWater.FULL, x -> x.feed(0, 1));
            s.due("law of 120 bytes", law, x -> x.law(KEPT, number));
            s.due("empty", 0, x -> x.count(4));
        }
        s.write("from 3 99;".repeat(12));
        int first = s.size();
        s.due("full", SameWater.FULL, x -> x.feed(0, 1));
        s.due("a 9th law", SameWater.FULL, x -> x.law(0, 0));
        s.due("v before that", SameWater.BAD, x -> x.law(0, -1));
        s.due("the tape stays", 120, x -> x.count(4));
        s.due("the laws stay", 8, x -> x.count(3));
        s.due("the last law stays", 7, x -> x.told(7, 1));
        s.upTo(CALLS, first);
        s.play(new SameWater(), CHECK, "tapes");
    }

    /** Faults of whole tapes: none becomes a law, the last is found as the first. */
    private static void faultsTillTheLastCall() {
        Script s = new Script();
        s.write("from 3 99;".repeat(11) + "slip 1;sli");
        s.due("an 11th clause", -10 - 99, x -> x.law(EACH, 9));
        s.write("slip 1|" + "slip 2;".repeat(16) + "s");
        s.due("no | behind a number", -16, x -> x.law(EACH, 9));
        s.write("say 2 " + "a=1|".repeat(28) + "k=");
        s.due("too early", -130, x -> x.law(EACH, 9));
        s.due("none is a law", 0, x -> x.count(3));
        int round = s.size();
        s.upTo(CALLS - 2, 0);
        SameWater x = new SameWater();
        for (int i = 0; i < CALLS - 2; i++) {
            s.play(x, i, CHECK, "faults, round " + i / round);
        }
        CHECK.due("what stands on the tape is read, or faulty", x.law(EACH, 9) < -9 ? 1 : 0, 1);
        CHECK.due("and gone", x.count(4), 0);
    }

    /** From 24 months to beyond 120, back, and once more. */
    private static void grownTillTheLastCall() {
        Script s = new Script();
        s.due("child", 0, x -> x.child(24)).due("child", 1, x -> x.child(120)).due("image", 2, SameWater::image);
        int first = s.size();
        for (int i = 1; i <= 98; i++) {
            int age = Math.min(120, 24 + i);
            s.due("grow", 2, x -> x.grow(1));
            s.due("age", age, x -> x.age(0));
        }
        s.due("oldest", 120, x -> x.age(1));
        s.due("undo", 2, SameWater::undo);
        s.upTo(CALLS, first);
        s.play(new SameWater(), CHECK, "grown");
    }

    private static void actsTillTheLastCall() {
        Script s = new Script().law(WORDED, 2, "slip 1", 0);
        int first = s.size();
        s.due("answers", ((9 * 3) - 2) * 2 + 6, x -> x.act(0, 2, 10));
        s.due("bodies", 7, x -> x.count(5));
        s.due("last", 1, x -> x.trace(6));
        s.due("none", SameWater.NONE, x -> x.trace(7));
        s.due("rules", 30, x -> x.act(0, 0, 10));
        s.due("bodies", 2, x -> x.count(5));
        s.due("none", SameWater.NONE, x -> x.trace(2));
        s.due("no act", 0, x -> x.act(0, 3, 10));
        s.due("no bodies", 0, x -> x.count(5));
        s.upTo(CALLS, first);
        s.play(new SameWater(), CHECK, "acts");
    }

    /** Eight laws of the longest texts there can be, each unlike the others: none takes another's place. */
    private static void eightLawsOfWholeTapes() {
        Script s = new Script();
        s.due("child", 0, x -> x.child(50));
        for (int i = 0; i < 8; i++) {
            int a = i;
            s.due("asking", i, x -> x.asking(a % 4, a / 4, 1, false, 0, 0, 0));
        }
        for (int law = 0; law < 8; law++) {
            String test = "k=" + law % 4 + "&m=" + law / 4;
            s.law(ANSWER, law, "say " + law % 2 * 2 + " " + (test + "|").repeat(12) + "!!(" + test + ")&(a>49)", law);
        }
        for (int round = 0; round < 4; round++) {
            for (int law = 0; law < 8; law++) {
                for (int asking = 0; asking < 8; asking++) {
                    int number = law;
                    int a = asking;
                    s.due("law " + law + " of " + asking, law == asking ? law % 2 * 2 : 1, x -> x.tells(number, 0, a));
                }
            }
        }
        CHECK.due("not beyond 512", s.size() <= CALLS ? 1 : 0, 1);
        s.play(new SameWater(), CHECK, "whole tapes");
    }

    // ---- several objects

    private static Script[] scripts() {
        return new Script[] {
            full(MORE).then(lastOnes(MORE)).then(lastOnes(MORE)).then(refused()),
            full(FOOLED).then(lastOnes(FOOLED)).then(refused()).then(lastOnes(FOOLED)),
            full(SAME).then(refused()).then(lastOnes(SAME)).then(lastOnes(SAME)),
            mixed().then(looks()).then(refusedOfMixed()),
            new Script().then(looks()),
            new Script().law(AGAIN, 1, "from 0 33;slip 4", 0).law(WANTING, 7, "say 0 a>1", 1).then(looks()),
        };
    }

    /** Two by two and all together, by one call of each or by more: each answers what it answers alone. */
    private static void objectsByTurns() {
        Script[] scripts = scripts();
        long[][] alone = new long[scripts.length][];
        for (int i = 0; i < scripts.length; i++) {
            alone[i] = scripts[i].play(new SameWater(), CHECK, "alone " + i);
        }
        for (int i = 0; i < scripts.length; i++) {
            for (int j = 0; j < scripts.length; j++) {
                for (int late = 0; late < 4; late++) {
                    turns(new Script[] {scripts[i], scripts[j]}, new long[][] {alone[i], alone[j]}, 1, late, i + " and " + j);
                }
            }
        }
        for (int calls : new int[] {1, 2, 7, 50}) {
            turns(scripts, alone, calls, calls / 3, "all by " + calls);
        }
    }

    /** So many calls of each at a time; each begins so many calls later than the one ahead of it. */
    private static void turns(Script[] scripts, long[][] alone, int calls, int late, String run) {
        SameWater[] objects = new SameWater[scripts.length];
        for (int i = 0; i < scripts.length; i++) {
            objects[i] = new SameWater();
        }
        for (int turn = 0; turn < CALLS + late * scripts.length; turn += calls) {
            for (int i = 0; i < scripts.length; i++) {
                int from = turn - late * i;
                for (int at = Math.max(0, from); at < from + calls && at < scripts[i].size(); at++) {
                    String call = "by turns " + run + ", object " + i + ", call " + at + ": " + scripts[i].name(at);
                    CHECK.due(call, scripts[i].play(objects[i], at, CHECK, "by turns " + run), alone[i][at]);
                }
            }
        }
    }

    /** Between any two calls of one object another is made, filled and left. */
    private static void objectsInsideOneAnother() {
        Script outer = full(MORE).then(lastOnes(MORE));
        Script inner = full(SAME).then(lastOnes(SAME));
        SameWater x = new SameWater();
        for (int i = 0; i < outer.size(); i++) {
            inner.play(new SameWater(), CHECK, "inside " + i);
            outer.play(x, i, CHECK, "around");
        }
    }
}
