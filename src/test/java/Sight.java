/**
 * All that can be seen of a SameWater, as a text: what its calls answer, then what stands on its tape, then the same
 * after undo. It changes the object, so two are made alike to see what a call has changed in one of them.
 */
final class Sight {
    private final SameWater x;
    private final StringBuilder seen = new StringBuilder();

    private Sight(SameWater x) {
        this.x = x;
    }

    static String of(SameWater x) {
        Sight sight = new Sight(x);
        sight.counts();
        sight.rows();
        sight.shown();
        sight.laws();
        sight.tape();
        sight.add("undo", x.undo());
        sight.counts();
        sight.ages();
        sight.tape();
        return sight.seen.toString();
    }

    private void add(String name, long got) {
        seen.append(name).append(' ').append(got).append('\n');
    }

    private void counts() {
        for (int what = 0; what <= 5; what++) {
            add("count", x.count(what));
        }
        int ran = x.count(5);
        for (int i = 0; i <= ran; i++) {
            add("trace", x.trace(i));
        }
    }

    private void ages() {
        int children = x.count(0);
        for (int child = 0; child < children; child++) {
            add("age", x.age(child));
        }
    }

    private void rows() {
        ages();
        int askings = x.count(1);
        for (int asking = 0; asking < askings; asking++) {
            for (int what = 0; what < 7; what++) {
                add("of", x.of(asking, what));
            }
        }
        int answers = x.count(2);
        for (int answer = 0; answer < answers; answer++) {
            for (int what = 0; what < 5; what++) {
                add("answered", x.answered(answer, what));
            }
        }
    }

    private void shown() {
        add("twice", x.moves(0, 0));
        add("bear", x.moves(1, 0));
        add("fooled", x.fooled());
        add("once", x.once());
        add("order", x.order(0, 1));
        add("from", x.from(0, false));
        add("likeliest", x.likeliest(x.count(2) == 0 ? 0 : 1));
        add("next", x.next(0));
        add("rule", x.rule(0));
    }

    /** What was taught, and at what ages, is seen by what a child keeps and by what spreads. */
    private void laws() {
        int children = Math.min(2, x.count(0));
        int askings = Math.min(3, x.count(1));
        int laws = x.count(3);
        for (int law = 0; law < laws; law++) {
            for (int what : new int[] {0, 1, 2, 10, 11, 12, 13}) {
                add("told", x.told(law, what));
            }
            add("right", x.right(law));
            add("cannot", x.cannot(law));
            add("as", x.as(law, 2));
            for (int child = 0; child < children; child++) {
                for (int asking = 0; asking < askings; asking++) {
                    add("tells", x.tells(law, child, asking));
                }
                for (int n = 0; n <= 12; n += 4) {
                    add("spread", x.spread(law, child, n));
                }
            }
        }
    }

    private void tape() {
        int law = x.law(0, 0);
        add("law", law);
        add("its slip", x.told(law, 2));
        add("its from", x.told(law, 10));
    }
}
