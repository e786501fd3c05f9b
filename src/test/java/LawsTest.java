/** Promises 11 to 14: laws, what they are, keep and tell. */
public final class LawsTest {
    private static final Check CHECK = new Check();

    public static void main(String[] args) {
        law();
        faults();
        told();
        keeps();
        tellsBySays();
        tellsByKind();
        tellsEach();
        tellsRefused();
        CHECK.end();
    }

    private static void due(String call, long got, long want) {
        CHECK.due(call, got, want);
    }

    /** Promise 11. */
    private static void law() {
        SameWater x = new SameWater();
        due("fed", Check.write(x, "slip 1"), 6);
        due("kind 7", x.law(7, 0), -1);
        due("kind -1", x.law(-1, 0), -1);
        due("v 10", x.law(0, 10), -2);
        due("v -1", x.law(0, -1), -2);
        due("none before bad", x.law(7, 10), -1);
        due("the tape stays", x.count(4), 6);
        due("law", x.law(0, 0), 0);
        due("the tape is empty", x.count(4), 0);
        due("fault", Check.law(x, 0, 0, "slip x"), -15);
        due("the tape is empty by a fault", x.count(4), 0);
        due("no law more", x.count(3), 1);
        due("nothing fed", x.law(0, 0), -10);
        for (int i = 1; i < 8; i++) {
            due("law " + i, Check.law(x, i - 1, 9, "slip 1"), i);
        }
        due("full", Check.law(x, 0, 0, "slip 1"), -4);
        due("the tape stays, full", x.count(4), 6);
        due("bad before full", x.law(0, 10), -2);
        due("none before full", x.law(7, 0), -1);
        due("count", x.count(3), 8);
    }

    private static void fault(String text, int place) {
        SameWater x = new SameWater();
        due("law of " + text, Check.law(x, 0, 0, text), place < 0 ? 0 : -10 - place);
        due("tape after " + text, x.count(4), 0);
    }

    /** Promise 11: the FAULT, and what is no fault. */
    private static void faults() {
        fault("from 0 0", -1);
        fault("from 3 999", -1);
        fault("over 3 3 0", -1);
        fault("over 0 1 120;from 1 2;say 2 a=1;slip 999", -1);
        fault("x", 0);
        fault("f", 1);
        fault("fram 0 1", 2);
        fault("from", 4);
        fault("from0 1", 4);
        fault("from  0 1", 5);
        fault("from 4 1", 5);
        fault("from 0", 6);
        fault("from 0  1", 7);
        fault("from 0 ", 7);
        fault("from 0 01", 8);
        fault("from 0 00", 8);
        fault("from 0 1000", 10);
        fault("from 0 1 ", 8);
        fault("from 0 -1", 7);
        fault("over 0 4 1", 7);
        fault("over 0 1", 8);
        fault("over 0 1 ", 9);
        fault("over 4", 5);
        fault("o", 1);
        fault("s", 1);
        fault("sx", 1);
        fault("say 3 a=1", 4);
        fault("say 1 z=1", 6);
        fault("say 1 a", 7);
        fault("say 1 a!1", 7);
        fault("say 1 a==1", 8);
        fault("say 1 a=", 8);
        fault("say 1 a=1)", 9);
        fault("say 1 (a=1", 10);
        fault("say 1 (a=1;", 10);
        fault("say 1 (a=1))", 11);
        fault("say 1 ()", 7);
        fault("say 1 a=1&", 10);
        fault("say 1 a=1||", 10);
        fault("say 1 a=1 ", 9);
        fault("say 1 a=1000", 11);
        fault("say 1 a=01", 9);
        fault("say 1  a=1", 6);
        fault("slip 1;", 7);
        fault("slip 1;;", 7);
        fault(";slip 1", 0);
        fault("slip 1\u00ff", 6);
        fault("slip 1\0", 6);
        fault("say 1 !!!!!a=1", -1);
        fault("say 1 !!!!!!a=1", 11);
        fault("say 1 (((((a=1)))))", -1);
        fault("say 1 ((((((a=1))))))", 11);
        fault("say 1 !(!(!a=1))", -1);
        fault("say 1 !(!(!!a=1))", 11);
        fault("say 1 !(!(!(a=1)))", 11);
        // What is closed is open no more.
        fault("say 1 !!!!!a=1&!!!!!a=2|(((((a=3)))))", -1);
        fault("say 1 !(!(a=1)&!(a=2))", -1);
        fault("say 1 !!!!(a=1&!a=1)", 15);
        fault("slip 0;slip 1;slip 2;slip 3;slip 4;slip 5;slip 6;slip 7;slip 8;slip 9", -1);
        fault("slip 0;slip 1;slip 2;slip 3;slip 4;slip 5;slip 6;slip 7;slip 8;slip 9;", 69);
        fault("slip 0;slip 1;slip 2;slip 3;slip 4;slip 5;slip 6;slip 7;slip 8;slip 9;slip 1", 69);
        // Each beginning that ends too early.
        for (String text : new String[] {"from 0 1", "over 0 1 2", "say 1 !(a=1&k>2|!c<3)", "slip 8"}) {
            for (int size = 0; size < text.length(); size++) {
                String beginning = text.substring(0, size);
                boolean isLaw = beginning.endsWith("!(a=1&k>2|!c<3)");
                fault(beginning, isLaw ? -1 : size);
                fault(beginning + "?", size);
            }
        }
        String wide = "say 2 " + "a=1|".repeat(28) + "w=";
        fault(wide, 120);
        fault("say 2 " + "a=1|".repeat(28) + "a9", 119);
        fault("say 2 " + "a=1&".repeat(27) + "a=100|", 120);
        fault("say 2 " + "a=1&".repeat(27) + "!a=100", -1);
    }

    /** Promise 12. */
    private static void told() {
        SameWater x = new SameWater();
        due("no law", x.told(0, 0), -1);
        Check.law(x, 6, 9, "from 0 40;from 1 999;from 0 41;slip 5;slip 101");
        Check.law(x, 2, 0, "over 0 1 3");
        Check.law(x, 1, 1, "slip 100;slip 99");
        int[] whats = {0, 1, 2, 10, 11, 12, 13};
        int[][] due = {{6, 9, 100, 41, 999, 84, 84}, {2, 0, 0, 84, 84, 84, 84}, {1, 1, 99, 84, 84, 84, 84}};
        for (int law = 0; law < 3; law++) {
            for (int i = 0; i < whats.length; i++) {
                due("told " + law + " " + whats[i], x.told(law, whats[i]), due[law][i]);
            }
        }
        for (int what : new int[] {-1, 3, 9, 14, Integer.MIN_VALUE, Integer.MAX_VALUE}) {
            due("told what " + what, x.told(0, what), -1);
        }
        due("told law 3", x.told(3, 0), -1);
        due("told law -1", x.told(-1, 0), -1);
        // Of a fault nothing stays with the next law.
        due("fault", Check.law(x, 0, 0, "from 2 3;over 0 1 0;slip 4;say 0 a>0;z"), -47);
        due("law", Check.law(x, 0, 0, "slip 0"), 3);
        due("told from", x.told(3, 12), 84);
        due("told slip", x.told(3, 2), 0);
        x.child(50);
        x.teach(0, 0);
        x.asking(0, 0, 1, false, 0, 0, 0);
        due("no over of it", x.keeps(3, 0, 1), 0);
        due("no say of it", x.tells(3, 0, 0), 1);
    }

    /** Promise 13. */
    private static void keeps() {
        SameWater x = new SameWater();
        Check.law(x, 0, 0, "from 0 48;over 1 2 6;over 2 3 0;over 3 2 10");
        due("no child", x.keeps(0, 0, 0), -1);
        x.child(47);
        x.child(84);
        due("no law", x.keeps(1, 0, 0), -1);
        due("stuff 4", x.keeps(0, 0, 4), -1);
        due("stuff -1", x.keeps(0, 0, -1), -1);
        due("child -1", x.keeps(0, -1, 0), -1);
        due("47 of 48", x.keeps(0, 0, 0), 0);
        due("84 without", x.keeps(0, 1, 1), 1);
        x.teach(0, 1);
        due("taught", x.keeps(0, 0, 1), 1);
        due("not over yet", x.keeps(0, 0, 2), 0);
        x.grow(1);
        due("48 of 48", x.keeps(0, 0, 0), 1);
        x.grow(4);
        due("5 months", x.keeps(0, 0, 2), 0);
        x.grow(1);
        due("6 months", x.keeps(0, 0, 2), 1);
        due("over goes no further than from what is taught", x.keeps(0, 0, 3), 0);
        x.teach(0, 2);
        due("over at once", x.keeps(0, 0, 3), 1);
        Check.law(x, 6, 0, "from 0 120;from 1 120;from 2 60");
        due("each has no part in it", x.keeps(1, 1, 2), 1);
        due("least", x.keeps(1, 1, 0), 0);
        for (int k = 0; k < 4; k++) {
            for (int j = 0; j < 4; j++) {
                SameWater y = new SameWater();
                y.child(50);
                y.teach(0, k);
                Check.law(y, 2, 0, "over " + k + " " + j + " 3");
                y.grow(2);
                due("2 months from " + k + " to " + j, y.keeps(0, 0, j), k == j ? 1 : 0);
                y.grow(1);
                due("3 months from " + k + " to " + j, y.keeps(0, 0, j), 1);
            }
        }
    }

    private static void says(String e, int child, int asking, int want) {
        SameWater x = new SameWater();
        x.child(50);
        x.child(60);
        x.asking(0, 0, 2, false, 1, 5, 0);
        x.asking(3, 2, 1, true, 3, -1, -1);
        x.asking(1, 1, 1, false, 0, 0, 1);
        Check.law(x, 0, 0, "say 2 " + e);
        due("says " + e, x.tells(0, child, asking), want == 1 ? 2 : 1);
    }

    /** Promise 14: the first say whose E holds. */
    private static void tellsBySays() {
        says("a=50", 0, 0, 1);
        says("a=50", 1, 0, 0);
        says("a<60", 1, 0, 0);
        says("a<61", 1, 0, 1);
        says("a>59", 1, 0, 1);
        says("a>60", 1, 0, 0);
        says("k=3", 0, 1, 1);
        says("k=3", 0, 2, 0);
        says("m=2", 0, 1, 1);
        says("m>1", 0, 2, 0);
        says("t=2", 0, 0, 1);
        says("t=2", 0, 1, 0);
        says("e=1", 0, 1, 1);
        says("e=0", 0, 0, 1);
        says("w=3", 0, 1, 1);
        says("w<1", 0, 2, 1);
        says("c=0", 0, 0, 1);
        says("c=1", 0, 1, 1);
        says("c=1", 0, 2, 1);
        says("!c=1", 0, 2, 0);
        says("!!c=1", 0, 2, 1);
        says("a=50|k=9&k=9", 0, 0, 1);
        says("(a=50|k=9)&k=9", 0, 0, 0);
        says("k=9&k=9|a=50", 0, 0, 1);
        says("!k=9&k=9", 0, 0, 0);
        says("!(k=9&k=9)", 0, 0, 1);
        says("a=50&a=50&a=51", 0, 0, 0);
        says("a=51|a=52|a=50", 0, 0, 1);
        says("a=50&(k=1|(k=0&!(t=1|m=1)))", 0, 0, 1);
        says("(a>0&(a>1&(a>2&(a>3&(a>4&a<9)))))", 0, 0, 0);
        SameWater x = new SameWater();
        x.child(50);
        x.asking(0, 0, 1, false, 0, 5, 0);
        Check.law(x, 2, 0, "say 0 a>90;say 1 a>40;say 0 a>30");
        due("the first that holds", x.tells(0, 0, 0), 1);
        x.grow(60);
        due("of the age now", x.tells(0, 0, 0), 0);
        Check.law(x, 2, 0, "say 0 a<24;slip 100");
        due("none holds", x.tells(1, 0, 0), 1);
    }

    private static final int[][] ASKED = {
        // stuff, moved, times, end, word, looks, truly
        {1, 0, 2, 0, 0, 3, 0}, {1, 0, 2, 0, 0, -3, 0}, {1, 0, 1, 1, 2, 2, 0}, {1, 1, 2, 1, 2, -1, 0},
        {1, 0, 2, 1, 1, 0, 0}, {1, 0, 2, 0, 3, 9, -1}, {1, 2, 1, 1, 2, -9, 1}, {1, 0, 2, 0, 2, 1, 0},
    };

    private static SameWater asked() {
        SameWater x = new SameWater();
        for (int[] a : ASKED) {
            x.asking(a[0], a[1], a[2], a[3] == 1, a[4], a[5], a[6]);
        }
        return x;
    }

    private static void tells(int kind, int v, int age, String text, String want) {
        SameWater x = asked();
        x.child(age);
        Check.law(x, kind, v, text);
        for (int i = 0; i < want.length(); i++) {
            due("kind " + kind + " v " + v + " age " + age + " asking " + i, x.tells(0, 0, i), want.charAt(i) - '0');
        }
    }

    /** Promise 14: by KIND. */
    private static void tellsByKind() {
        tells(0, 0, 50, "slip 0", "11111111");
        tells(1, 0, 50, "slip 0", "20201202");
        tells(1, 1, 50, "slip 0", "20201202");
        tells(1, 2, 50, "slip 0", "20211201");
        tells(1, 3, 50, "slip 0", "20111201");
        tells(1, 4, 50, "slip 0", "11111201");
        tells(2, 5, 50, "from 1 51", "20201202");
        tells(2, 5, 51, "from 1 51", "11111021");
        tells(3, 5, 50, "from 1 51", "20201202");
        tells(3, 5, 51, "from 1 51", "20111022");
        tells(4, 0, 50, "slip 0", "02201202");
        tells(4, 2, 50, "slip 0", "20011221");
        tells(4, 3, 50, "slip 0", "20111001");
        tells(5, 9, 53, "from 1 60", "20201202");
        tells(5, 9, 54, "from 1 60", "20111222");
        tells(5, 0, 24, "from 1 60", "20111222");
        tells(5, 9, 60, "from 1 60", "11111021");
        tells(6, 0, 60, "from 0 60;from 1 60", "20111022");
        tells(6, 0, 60, "from 0 61;from 1 60", "20201202");
        tells(6, 0, 59, "from 0 24;from 1 60", "20201202");
    }

    /** Promise 14: EACH needs all of a lesser number. */
    private static void tellsEach() {
        SameWater x = new SameWater();
        x.child(60);
        for (int stuff = 0; stuff < 4; stuff++) {
            x.asking(stuff, 1, 1, false, 0, 4, 0);
        }
        Check.law(x, 6, 0, "from 0 50;from 1 50;from 2 70;from 3 50");
        due("water", x.tells(0, 0, 0), 1);
        due("clay", x.tells(0, 0, 1), 1);
        due("counters", x.tells(0, 0, 2), 2);
        due("weight", x.tells(0, 0, 3), 2);
        x.teach(0, 2);
        due("counters taught", x.tells(0, 0, 2), 1);
        due("weight then", x.tells(0, 0, 3), 1);
        Check.law(x, 3, 0, "from 3 50");
        due("again does not", x.tells(1, 0, 3), 1);
    }

    private static void tellsRefused() {
        SameWater x = asked();
        x.child(50);
        Check.law(x, 0, 0, "slip 0");
        due("law 1", x.tells(1, 0, 0), -1);
        due("law -1", x.tells(-1, 0, 0), -1);
        due("child 1", x.tells(0, 1, 0), -1);
        due("child -1", x.tells(0, -1, 0), -1);
        due("asking 8", x.tells(0, 0, 8), -1);
        due("asking -1", x.tells(0, 0, -1), -1);
    }
}
