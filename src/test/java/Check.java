/** Counts and prints the calls whose answer is not the one that is due. */
final class Check {
    private int calls = 0;
    private int wrong = 0;

    void due(String call, long got, long want) {
        calls++;
        if (got != want) {
            wrong++;
            if (wrong <= 40) {
                System.out.println(call + " answered " + got + ", due is " + want);
            }
        }
    }

    /** Two texts of what was seen: the first line that differs is told. */
    void alike(String call, String got, String want) {
        String[] gotLines = got.split("\n");
        String[] wantLines = want.split("\n");
        calls++;
        if (!got.equals(want)) {
            wrong++;
            for (int i = 0; i < gotLines.length && i < wantLines.length; i++) {
                if (!gotLines[i].equals(wantLines[i])) {
                    System.out.println(call + ", line " + i + ": " + gotLines[i] + ", due is " + wantLines[i]);
                    return;
                }
            }
            System.out.println(call + ": " + gotLines.length + " lines, due are " + wantLines.length);
        }
    }

    void end() {
        System.out.println(calls + " answers, " + wrong + " not as due");
        if (wrong != 0 || calls == 0) {
            System.exit(1);
        }
    }

    /** Feeds a text to THE TAPE: the answer of the last feed. */
    static int write(SameWater water, String text) {
        int size = water.count(4);
        for (int at = 0; at < text.length(); at += 8) {
            int end = Math.min(text.length(), at + 8);
            long w = 0;
            for (int i = at; i < end; i++) {
                w = w << 8 | (text.charAt(i) & 255);
            }
            size = water.feed(w, end - at);
        }
        return size;
    }

    /** Feeds a text and reads it as a law. */
    static int law(SameWater water, int kind, int v, String text) {
        write(water, text);
        return water.law(kind, v);
    }
}
