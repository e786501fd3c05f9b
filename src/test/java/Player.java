/**
 * Makes calls by a fixed row of numbers on a SameWater and on a Model, which must answer alike: 512 calls at most,
 * as an object is used for no more.
 */
final class Player {
    static final int CALLS = 512;
    /** A step makes no more calls than this. */
    private static final int MOST_OF_STEP = 32;

    private final Check check;
    private final String name;
    private final SameWater water = new SameWater();
    private final Model model = new Model();
    private long seed;
    private int calls = 0;
    private String told = "";

    Player(Check check, String name, long seed) {
        this.check = check;
        this.name = name;
        this.seed = seed;
    }

    boolean isDone() {
        return calls >= CALLS;
    }

    /** A change or a look; where a step could go beyond the last call, a look that is one call. */
    void step() {
        int kind = any(40);
        if (calls + MOST_OF_STEP > CALLS) {
            look(new int[] {0, 1, 3, 4, 6, 7, 8, 11, 12, 13, 14, 15, 18, 19, 20, 22}[any(16)]);
        } else if (kind < 16) {
            change(kind);
        } else {
            look(kind - 16);
        }
    }

    /** One text on THE TAPE, now and then with faults, and what is read. */
    void readText() {
        StringBuilder text = new StringBuilder(text());
        for (int spoils = any(3); spoils > 0 && text.length() > 0; spoils--) {
            spoil(text);
        }
        feedAll(text.toString());
        due("law " + text, water.law(2, 3), model.law(2, 3));
        due("count", water.count(4), 0);
    }

    private int any(int bound) {
        seed = seed * 6364136223846793005L + 1442695040888963407L;
        return (int) ((seed >>> 33) % bound);
    }

    private int within(int least, int most) {
        return least + any(most - least + 1);
    }

    /** Mostly a number in the bounds, now and then one beside them. */
    private int near(int least, int most) {
        int odd = any(40);
        if (odd == 0) {
            return least - 1;
        }
        if (odd == 1) {
            return most + 1;
        }
        if (odd == 2 && any(4) == 0) {
            return any(2) == 0 ? Integer.MIN_VALUE : Integer.MAX_VALUE;
        }
        return within(least, Math.max(least, most));
    }

    private int row(int what) {
        return near(0, model.count(what) - 1);
    }

    private void change(int kind) {
        int a = near(24, 120);
        int b = near(0, 3);
        boolean yes = any(2) == 0;
        switch (kind) {
            case 0: {
                due("child " + a, water.child(a), model.child(a));
                break;
            }
            case 1: {
                int n = any(3) == 0 ? near(1, 60) : near(1, 5);
                due("grow " + n, water.grow(n), model.grow(n));
                break;
            }
            case 2:
            case 3: {
                int moved = near(0, 2);
                int times = near(1, 2);
                int word = near(0, 3);
                int looks = near(-9, 9);
                int truly = any(2) == 0 ? 0 : near(-1, 1);
                due("asking", water.asking(b, moved, times, yes, word, looks, truly),
                        model.asking(b, moved, times, yes, word, looks, truly));
                break;
            }
            case 4:
            case 5:
            case 6:
            case 7: {
                int child = row(0);
                int asking = row(1);
                int said = any(2) == 0 ? 1 : near(0, 2);
                due("answer", water.answer(child, asking, said, yes), model.answer(child, asking, said, yes));
                break;
            }
            case 8:
            case 9: {
                int child = row(0);
                due("teach", water.teach(child, b), model.teach(child, b));
                break;
            }
            case 10: {
                long w = (long) any(1 << 30) << 34 | any(1 << 30);
                int n = near(1, 8);
                if (any(8) == 0) {
                    due("feed", water.feed(w, n), model.feed(w, n));
                }
                break;
            }
            case 11:
            case 12:
            case 13: {
                feedAll(text());
                int law = near(0, 6);
                int v = near(0, 9);
                due("law " + law + " " + v + " " + told, water.law(law, v), model.law(law, v));
                break;
            }
            case 14: {
                if (any(3) == 0) {
                    due("image", water.image(), model.image());
                }
                break;
            }
            default: {
                if (any(3) == 0) {
                    due("undo", water.undo(), model.undo());
                }
            }
        }
    }

    private void look(int kind) {
        int a = row(3);
        int b = row(0);
        int c = row(1);
        int d = row(2);
        int part = near(0, 1);
        int stuff = near(0, 3);
        boolean yes = any(2) == 0;
        switch (kind) {
            case 0: due("age", water.age(b), model.age(b)); break;
            case 1: due("of", water.of(c, part * 3), model.of(c, part * 3)); break;
            case 2: due("of", water.of(c, d), model.of(c, d)); break;
            case 3: due("answered", water.answered(d, stuff + 1), model.answered(d, stuff + 1)); break;
            case 4: due("told", water.told(a, stuff), model.told(a, stuff)); break;
            case 5: due("told", water.told(a, stuff + 10), model.told(a, stuff + 10)); break;
            case 6: due("keeps", water.keeps(a, b, stuff), model.keeps(a, b, stuff)); break;
            case 7: due("tells", water.tells(a, b, c), model.tells(a, b, c)); break;
            case 8: due("chance", water.chance(a, d, part), model.chance(a, d, part)); break;
            case 9:
            case 10: {
                int set = set();
                due("odds", water.odds(a, set, 0), model.odds(a, set, 0));
                due("odds", water.odds(a, set, part), model.odds(a, set, part));
                due("likeliest", water.likeliest(set), model.likeliest(set));
                break;
            }
            case 11: due("cannot", water.cannot(a), model.cannot(a)); break;
            case 12: due("right", water.right(a), model.right(a)); break;
            case 13: due("rule", water.rule(b), model.rule(b)); break;
            case 14: {
                int other = row(3);
                due("parts", water.parts(a, other), model.parts(a, other));
                break;
            }
            case 15: due("next", water.next(b), model.next(b)); break;
            case 16: {
                int what = near(0, 1);
                due("moves", water.moves(what, 0), model.moves(what, 0));
                due("moves", water.moves(what, part), model.moves(what, part));
                break;
            }
            case 17:
                due("fooled", water.fooled(), model.fooled());
                due("once", water.once(), model.once());
                break;
            case 18: {
                int other = near(0, 3);
                due("order", water.order(stuff, other), model.order(stuff, other));
                break;
            }
            case 19: due("from", water.from(stuff, yes), model.from(stuff, yes)); break;
            case 20: {
                int n = near(0, 99);
                due("spread", water.spread(a, b, n), model.spread(a, b, n));
                break;
            }
            case 21: act(a); break;
            case 22: due("as", water.as(a, d % 7), model.as(a, d % 7)); break;
            default: counts();
        }
    }

    private void act(int law) {
        int act = near(0, 2);
        int x = any(2) == 0 ? near(-20, 20) : any(1 << 30) * 5;
        due("act", water.act(law, act, x), model.act(law, act, x));
        for (int i = -1; i <= model.count(5) && i < 22; i++) {
            due("trace " + i, water.trace(i), model.trace(i));
        }
    }

    private int set() {
        int set = 0;
        int bits = near(0, 8);
        for (int i = 0; i < bits && i < 10; i++) {
            set |= 1 << any(Math.max(1, Math.min(31, model.count(2))));
        }
        return any(30) == 0 ? set | 1 << any(32) : set;
    }

    private void counts() {
        for (int what = -1; what <= 6; what++) {
            due("count " + what, water.count(what), model.count(what));
        }
    }

    private void due(String call, long got, long want) {
        calls++;
        check.due(name + ": call " + calls + ", " + call, got, want);
    }

    private void feedAll(String text) {
        told = text;
        for (int at = 0; at < text.length(); at += 8) {
            int end = Math.min(text.length(), at + 8);
            // What stands above the n lowest bytes must not matter.
            long w = any(256);
            for (int i = at; i < end; i++) {
                w = w << 8 | text.charAt(i) & 255;
            }
            due("feed", water.feed(w, end - at), model.feed(w, end - at));
        }
    }

    // ---- texts of laws, now and then with a fault

    private String text() {
        StringBuilder text = new StringBuilder();
        int clauses = any(12) == 0 ? 11 : within(1, 5);
        for (int i = 0; i < clauses; i++) {
            text.append(i == 0 ? "" : ";").append(clause());
        }
        if (any(5) == 0) {
            spoil(text);
        }
        if (text.length() > 120) {
            text.setLength(any(2) == 0 ? 120 : 96);
        }
        return text.toString();
    }

    private void spoil(StringBuilder text) {
        String signs = "from over say slip 0123456789;;|&!()<=>akmtewcx\0\u00ff";
        int at = any(text.length());
        switch (any(4)) {
            case 0: text.setCharAt(at, signs.charAt(any(signs.length()))); break;
            case 1: text.insert(at, signs.charAt(any(signs.length()))); break;
            case 2: text.deleteCharAt(at); break;
            default: text.setLength(at);
        }
    }

    private String clause() {
        switch (any(6)) {
            case 0:
            case 1: return "from " + any(4) + " " + (any(6) == 0 ? any(1000) : within(24, 120));
            case 2: return "over " + any(4) + " " + any(4) + " " + any(any(4) == 0 ? 1000 : 12);
            case 3: return "slip " + (any(4) == 0 ? any(1000) : any(4) == 0 ? 100 : any(30));
            default: return "say " + any(3) + " " + either(any(10) == 0 ? 6 : 3);
        }
    }

    private String either(int deep) {
        StringBuilder e = new StringBuilder(both(deep));
        while (any(3) == 0) {
            e.append('|').append(both(deep));
        }
        return e.toString();
    }

    private String both(int deep) {
        StringBuilder t = new StringBuilder(part(deep));
        while (any(3) == 0) {
            t.append('&').append(part(deep));
        }
        return t.toString();
    }

    private String part(int deep) {
        int open = deep > 0 ? any(deep > 3 ? 3 : 6) : 5;
        if (open == 0) {
            return "!" + part(deep - 1);
        }
        if (open == 1) {
            return "(" + either(deep - 1) + ")";
        }
        int letter = any(7);
        int most = letter == 0 ? 130 : 4;
        return "" + "akmtewc".charAt(letter) + "<=>".charAt(any(3)) + any(most);
    }
}
