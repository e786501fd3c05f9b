/**
 * The same water: children who are asked whether a stuff is still as much after it was poured,
 * rolled or moved apart; laws of what they answer; and what their answers show.
 */
public final class SameWater {
    public static final int NONE = -1, BAD = -2, STATE = -3, FULL = -4;
    public static final long NO = Long.MIN_VALUE;

    private static final int NOTHING = -5, OTHER_KIND = -6, FAULTY = -10, NO_NUMBER = -1001;

    private static final int MOST_CHILDREN = 8, MOST_ASKINGS = 16, MOST_ANSWERS = 40, MOST_LAWS = 8;
    private static final int MOST_BYTES = 120, MOST_CLAUSES = 10, MOST_OPEN = 5;
    private static final int MOST_IN_SET = 8, FIRST_OF_SET = 30, MOST_TRACED = 20;

    private static final int STUFFS = 4, KINDS = 7, ACTS = 3;
    private static final int YOUNGEST = 24, OLDEST = 120;

    /** What is said, and how it is once moved: TRULY and LOOKS by their signs, one more. */
    private static final int LESS = 0, SAME = 1, MORE = 2;

    /** Columns of CHILDREN; the ages at which the STUFFS were taught begin at TAUGHT. */
    private static final int AGE = 0, TAUGHT = 1, CHILD_WIDTH = TAUGHT + STUFFS;
    /** Above every age, so that it never comes. */
    private static final int NEVER = 100000;
    /** Columns of ASKINGS, as of() numbers them. */
    private static final int STUFF = 0, MOVED = 1, TIMES = 2, END = 3, WORD = 4, LOOKS = 5, TRULY = 6;
    private static final int ASKING_WIDTH = 7;
    /** Columns of ANSWERS, as answered() numbers them. */
    private static final int WHO = 0, ASKED = 1, SAID = 2, WHY = 3, AGE_THEN = 4, ANSWER_WIDTH = 5;

    private static final int MAN = 0, BEAR = 1, ANY = -1;

    private static final int ANSWER = 0, LENGTH = 1, KEPT = 2, AGAIN = 3, WORDED = 4, WANTING = 5, EACH = 6;
    /** The KIND above each KIND. */
    private static final int[] ABOVE = {-1, ANSWER, ANSWER, KEPT, LENGTH, KEPT, AGAIN};
    private static final int RULES = 0, READS = 1, ANSWERS = 2;
    /** The numbers of each KIND's own bodies of rules, reads and answers; 0 where it has none. */
    private static final int[] BODIES = {1, 2, 3, 11, 0, 0, 0, 21, 0, 0, 0, 31, 0, 0, 41, 51, 0, 0, 0, 61, 0};
    /** More than any run of bodies needs. */
    private static final int DEEPEST = 40;

    private final World now = new World();
    private final World taken = new World();
    private boolean isTaken;
    private final Acts acts = new Acts();

    public SameWater() {
    }

    // ---- children, askings, answers

    public int child(int age) {
        if (age < YOUNGEST || age > OLDEST) {
            return BAD;
        }
        return now.children.isFull() ? FULL : now.addChild(age);
    }

    public int age(int child) {
        return now.children.has(child) ? now.children.at(child, AGE) : NONE;
    }

    public int grow(int n) {
        if (n < 1 || n > 60) {
            return BAD;
        }
        now.growBy(n);
        return now.children.size;
    }

    public int asking(int stuff, int moved, int times, boolean eat, int word, int looks, int truly) {
        if (!isStuff(stuff) || moved < 0 || moved > 2) {
            return NONE;
        }
        if (times < 1 || times > 2 || word < 0 || word > 3 || looks < -9 || looks > 9 || truly < -1 || truly > 1) {
            return BAD;
        }
        if (now.askings.isFull()) {
            return FULL;
        }
        int asking = now.askings.add();
        now.askings.put(asking, STUFF, stuff);
        now.askings.put(asking, MOVED, moved);
        now.askings.put(asking, TIMES, times);
        now.askings.put(asking, END, eat ? 1 : 0);
        now.askings.put(asking, WORD, word);
        now.askings.put(asking, LOOKS, looks);
        now.askings.put(asking, TRULY, truly);
        return asking;
    }

    public int of(int asking, int what) {
        return now.askings.has(asking) && what >= 0 && what < ASKING_WIDTH ? now.askings.at(asking, what) : NO_NUMBER;
    }

    public int answer(int child, int asking, int said, boolean why) {
        if (!now.children.has(child) || !now.askings.has(asking)) {
            return NONE;
        }
        if (said < LESS || said > MORE) {
            return BAD;
        }
        if (now.answers.isFull()) {
            return FULL;
        }
        int answer = now.answers.add();
        now.answers.put(answer, WHO, child);
        now.answers.put(answer, ASKED, asking);
        now.answers.put(answer, SAID, said);
        now.answers.put(answer, WHY, why ? 1 : 0);
        now.answers.put(answer, AGE_THEN, now.children.at(child, AGE));
        return answer;
    }

    public int answered(int answer, int what) {
        return now.answers.has(answer) && what >= 0 && what < ANSWER_WIDTH ? now.answers.at(answer, what) : NONE;
    }

    public int teach(int child, int stuff) {
        if (!now.children.has(child) || !isStuff(stuff)) {
            return NONE;
        }
        return now.teachNow(child, stuff) ? 1 : 0;
    }

    // ---- laws

    public int feed(long w, int n) {
        if (n < 1 || n > 8) {
            return BAD;
        }
        return now.tape.append(w, n) ? now.tape.size : FULL;
    }

    public int law(int kind, int v) {
        if (!isKind(kind)) {
            return NONE;
        }
        if (v < 0 || v > 9) {
            return BAD;
        }
        if (now.lawCount < 0 || now.lawCount >= MOST_LAWS) {
            return FULL;
        }
        Law read = now.laws[now.lawCount];
        boolean isLaw = now.tape.readInto(read);
        now.tape.size = 0;
        if (!isLaw) {
            return FAULTY - now.tape.place;
        }
        read.number = now.lawCount;
        read.kind = kind;
        read.v = v;
        now.lawCount++;
        return read.number;
    }

    public int told(int law, int what) {
        if (!now.hasLaw(law)) {
            return NONE;
        }
        Law one = now.laws[law];
        switch (what) {
            case 0: return one.kind;
            case 1: return one.v;
            case 2: return one.slip;
            default: return isStuff(what - 10) ? one.from[what - 10] : NONE;
        }
    }

    public int keeps(int law, int child, int stuff) {
        if (!now.hasLaw(law) || !now.children.has(child) || !isStuff(stuff)) {
            return NONE;
        }
        return now.keptAt(now.laws[law], child, now.children.at(child, AGE)) >> stuff & 1;
    }

    public int tells(int law, int child, int asking) {
        if (!now.hasLaw(law) || !now.children.has(child) || !now.askings.has(asking)) {
            return NONE;
        }
        return now.toldNow(law, child, asking);
    }

    // ---- odds

    public long chance(int law, int answer, int part) {
        if (!now.hasLaw(law) || !now.answers.has(answer) || !isPart(part)) {
            return NO;
        }
        return lowest(now.chanceOf200(law, answer), 200, part);
    }

    public long odds(int law, int answers, int part) {
        if (!now.hasLaw(law) || !now.isSet(answers) || !isPart(part)) {
            return NO;
        }
        long below = 1;
        for (int i = 0; i < Integer.bitCount(answers); i++) {
            below *= 200;
        }
        return lowest(now.oddsAbove(law, answers), below, part);
    }

    public int cannot(int law) {
        return now.hasLaw(law) ? now.firstImpossible(law) : NONE;
    }

    public int right(int law) {
        return now.hasLaw(law) ? now.rightOf(law, ANY) : NONE;
    }

    public int likeliest(int answers) {
        if (!now.isSet(answers)) {
            return BAD;
        }
        int best = NOTHING;
        long most = -1;
        for (int law = 0; law < now.lawCount; law++) {
            // Below the line stands the same for all laws.
            long above = now.oddsAbove(law, answers);
            if (above > most) {
                most = above;
                best = law;
            }
        }
        return best;
    }

    public int rule(int child) {
        return now.children.has(child) ? now.ruleOf(child) : NONE;
    }

    public int parts(int law, int other) {
        return now.hasLaw(law) && now.hasLaw(other) ? now.partings(law, other) : NONE;
    }

    public int next(int child) {
        return now.children.has(child) ? now.bestAsking(child) : NONE;
    }

    // ---- what answers show

    public long moves(int what, int part) {
        if (what < 0 || what > 1 || !isPart(part)) {
            return NO;
        }
        return what == 0 ? now.shareLess(MAN, 2, MAN, 1, part) : now.shareLess(BEAR, ANY, MAN, ANY, part);
    }

    public int fooled() {
        return now.fooledChildren();
    }

    public int once() {
        return now.allAtOnce();
    }

    public int order(int k, int j) {
        if (!isStuff(k) || !isStuff(j)) {
            return NONE;
        }
        return k == j ? BAD : now.shownBefore(k, j);
    }

    public int from(int stuff, boolean why) {
        return isStuff(stuff) ? now.ageOf(stuff, why) : NONE;
    }

    public int spread(int law, int child, int n) {
        if (!now.hasLaw(law) || !now.children.has(child)) {
            return NONE;
        }
        if (n < 0 || n > 99) {
            return BAD;
        }
        return now.isTaughtSome(child) ? now.keptAt(now.laws[law], child, now.children.at(child, AGE) + n) : STATE;
    }

    // ---- acts, the image

    public int act(int law, int act, int x) {
        acts.ran = 0;
        if (!now.hasLaw(law) || act < 0 || act >= ACTS) {
            return 0;
        }
        Law one = now.laws[law];
        return acts.run(one, one.kind, act, x, 0);
    }

    public int trace(int i) {
        return i >= 0 && i < MOST_TRACED && i < acts.ran ? acts.bodies[i] : NONE;
    }

    public int as(int law, int k) {
        if (!now.hasLaw(law) || !isKind(k)) {
            return NONE;
        }
        return isUnder(now.laws[law].kind, k) ? now.laws[law].v : OTHER_KIND;
    }

    public int image() {
        taken.copy(now);
        isTaken = true;
        return now.children.size;
    }

    public int undo() {
        if (!isTaken) {
            return STATE;
        }
        now.copy(taken);
        return now.children.size;
    }

    public int count(int what) {
        switch (what) {
            case 0: return now.children.size;
            case 1: return now.askings.size;
            case 2: return now.answers.size;
            case 3: return now.lawCount;
            case 4: return now.tape.size;
            case 5: return acts.ran;
            default: return NONE;
        }
    }

    // ---- what all parts use

    private static boolean isStuff(int stuff) {
        return stuff >= 0 && stuff < STUFFS;
    }

    private static boolean isKind(int kind) {
        return kind >= 0 && kind < KINDS;
    }

    private static boolean isPart(int part) {
        return part == 0 || part == 1;
    }

    /** Whether a KIND is this one or under it. */
    private static boolean isUnder(int kind, int top) {
        int at = kind;
        for (int step = 0; step < KINDS && isKind(at); step++) {
            if (at == top) {
                return true;
            }
            at = ABOVE[at];
        }
        return false;
    }

    /** A part of the fraction in lowest terms; below the line stands a number above 0. */
    private static long lowest(long above, long below, int part) {
        long most = Math.abs(above);
        long rest = below;
        // Euclid's steps on two longs are fewer than 100.
        for (int step = 0; step < 100 && rest != 0; step++) {
            long left = most % rest;
            most = rest;
            rest = left;
        }
        long shared = Math.max(most, 1);
        return (part == 0 ? above : below) / shared;
    }

    /** Rows of numbers, so many columns wide. */
    private static final class Rows {
        final int most;
        final int width;
        final int[] cells;
        int size;

        Rows(int most, int width) {
            this.most = most;
            this.width = width;
            this.cells = new int[most * width];
        }

        boolean has(int row) {
            return row >= 0 && row < size;
        }

        boolean isFull() {
            return size >= most;
        }

        int at(int row, int column) {
            return row >= 0 && row < size && column >= 0 && column < width ? cells[row * width + column] : 0;
        }

        void put(int row, int column, int value) {
            if (row >= 0 && row < size && column >= 0 && column < width) {
                cells[row * width + column] = value;
            }
        }

        /** Another row, if there is place: its number. */
        int add() {
            if (size >= most) {
                return FULL;
            }
            size++;
            return size - 1;
        }

        void copy(Rows other) {
            size = Math.min(other.size, most);
            System.arraycopy(other.cells, 0, cells, 0, Math.min(other.cells.length, cells.length));
        }
    }

    /** A LAW as it was read: what it keeps, how it slips, and its says as steps on a stack of bits. */
    private static final class Law {
        /** Steps: a test is 0 or more; AND, OR and NOT join what stands; SAY less a ends a say of a. */
        static final int AND = -1, OR = -2, NOT = -3, SAY = -10;
        /** Of a test's step: letter, then sign, then the number. */
        static final int PER_SIGN = 1000, SIGNS = 3, PER_LETTER = PER_SIGN * SIGNS;
        /** AGE, then an ASKING's columns STUFF to WORD, then whether it IS changed. */
        static final String LETTERS = "akmtewc";
        static final int LETTER_AGE = 0, LETTER_CHANGED = 6;
        /** Columns of overs: the STUFF that was taught, the one that it goes over to, after how many months. */
        static final int OVER_FROM = 0, OVER_TO = 1, OVER_MONTHS = 2, OVER_WIDTH = 3;

        int number;
        int kind;
        int v;
        int slip;
        final int[] from = new int[STUFFS];
        final Rows overs = new Rows(MOST_CLAUSES, OVER_WIDTH);
        final int[] steps = new int[MOST_BYTES];
        int stepCount;

        void clear() {
            slip = 0;
            overs.size = 0;
            stepCount = 0;
            for (int stuff = 0; stuff < STUFFS; stuff++) {
                from[stuff] = 84;
            }
        }

        void putFrom(int stuff, int n) {
            if (isStuff(stuff)) {
                from[stuff] = n;
            }
        }

        void addOver(int k, int j, int n) {
            int over = overs.add();
            overs.put(over, OVER_FROM, k);
            overs.put(over, OVER_TO, j);
            overs.put(over, OVER_MONTHS, n);
        }

        /** Each step comes from a byte of its own, so there is always place for it. */
        void addStep(int step) {
            if (stepCount < MOST_BYTES) {
                steps[stepCount] = step;
                stepCount++;
            }
        }

        void copy(Law other) {
            number = other.number;
            kind = other.kind;
            v = other.v;
            slip = other.slip;
            stepCount = other.stepCount;
            overs.copy(other.overs);
            System.arraycopy(other.from, 0, from, 0, STUFFS);
            System.arraycopy(other.steps, 0, steps, 0, MOST_BYTES);
        }

        /** What the first say tells whose E holds; -1, if none does. */
        int firstSaid(Rows askings, int asking, int age) {
            // The lowest bit is the top; brackets at most 5 deep keep some dozen bits at once.
            long bits = 0;
            for (int i = 0; i < stepCount && i < MOST_BYTES; i++) {
                int step = steps[i];
                long top = bits & 1;
                if (step >= 0) {
                    bits = bits << 1 | (holds(step, valueOf(step / PER_LETTER, askings, asking, age)) ? 1 : 0);
                } else if (step == NOT) {
                    bits ^= 1;
                } else if (step == AND) {
                    bits = bits >> 1 & (top | ~1L);
                } else if (step == OR) {
                    bits = bits >> 1 | top;
                } else if (top == 1) {
                    return SAY - step;
                } else {
                    bits = 0;
                }
            }
            return -1;
        }

        private static boolean holds(int test, int value) {
            int n = test % PER_SIGN;
            switch (test / PER_SIGN % SIGNS) {
                case 0: return value < n;
                case 1: return value == n;
                default: return value > n;
            }
        }

        private static int valueOf(int letter, Rows askings, int asking, int age) {
            if (letter == LETTER_AGE) {
                return age;
            }
            if (letter == LETTER_CHANGED) {
                return askings.at(asking, TRULY) == 0 ? 0 : 1;
            }
            return askings.at(asking, letter - 1);
        }
    }

    /** THE TAPE; it takes signs only as long as a LAW can go on with them. */
    private static final class Tape {
        private static final String DIGITS = "0123456789", STUFF_DIGITS = "0123";

        final byte[] bytes = new byte[MOST_BYTES];
        int size;
        /** Where a reading stands: the FAULT's place, when it has failed. */
        int place;

        /** Puts the n lowest bytes of w behind, the highest first; false, if they are too many. */
        boolean append(long w, int n) {
            if (size + n > MOST_BYTES) {
                return false;
            }
            for (int left = n - 1; left >= 0 && size < MOST_BYTES; left--) {
                bytes[size] = (byte) (w >> (8 * left));
                size++;
            }
            return true;
        }

        void copy(Tape other) {
            size = other.size;
            System.arraycopy(other.bytes, 0, bytes, 0, MOST_BYTES);
        }

        /** Whether all of it is a LAW, which is read then. */
        boolean readInto(Law law) {
            law.clear();
            place = 0;
            for (int clauses = 1; clauses <= MOST_CLAUSES; clauses++) {
                if (!readClause(law)) {
                    return false;
                }
                if (place == size) {
                    return true;
                }
                if (clauses == MOST_CLAUSES || !take(';')) {
                    return false;
                }
            }
            return false;
        }

        private boolean readClause(Law law) {
            if (take('f')) {
                return takeAll("rom ") && readFrom(law);
            }
            if (take('o')) {
                return takeAll("ver ") && readOver(law);
            }
            if (!take('s')) {
                return false;
            }
            if (take('l')) {
                return takeAll("ip ") && readSlip(law);
            }
            if (!takeAll("ay ")) {
                return false;
            }
            int said = takeOne("012");
            if (said < 0 || !take(' ') || !readEither(law, 0)) {
                return false;
            }
            law.addStep(Law.SAY - said);
            return true;
        }

        private boolean readFrom(Law law) {
            int stuff = takeOne(STUFF_DIGITS);
            if (stuff < 0 || !take(' ')) {
                return false;
            }
            int n = readNumber();
            law.putFrom(stuff, n);
            return n >= 0;
        }

        private boolean readOver(Law law) {
            int taught = takeOne(STUFF_DIGITS);
            if (taught < 0 || !take(' ')) {
                return false;
            }
            int stuff = takeOne(STUFF_DIGITS);
            if (stuff < 0 || !take(' ')) {
                return false;
            }
            int n = readNumber();
            law.addOver(taught, stuff, n);
            return n >= 0;
        }

        private boolean readSlip(Law law) {
            int n = readNumber();
            law.slip = Math.min(n, 100);
            return n >= 0;
        }

        /** An E, inside so many open ! and (. */
        private boolean readEither(Law law, int open) {
            if (!readBoth(law, open)) {
                return false;
            }
            for (int i = 0; i < MOST_BYTES && take('|'); i++) {
                if (!readBoth(law, open)) {
                    return false;
                }
                law.addStep(Law.OR);
            }
            return true;
        }

        /** A T. */
        private boolean readBoth(Law law, int open) {
            if (!readPart(law, open)) {
                return false;
            }
            for (int i = 0; i < MOST_BYTES && take('&'); i++) {
                if (!readPart(law, open)) {
                    return false;
                }
                law.addStep(Law.AND);
            }
            return true;
        }

        /** An F. */
        private boolean readPart(Law law, int open) {
            if (open < MOST_OPEN && take('!')) {
                if (!readPart(law, open + 1)) {
                    return false;
                }
                law.addStep(Law.NOT);
                return true;
            }
            if (open < MOST_OPEN && take('(')) {
                return readEither(law, open + 1) && take(')');
            }
            int letter = takeOne(Law.LETTERS);
            if (letter < 0) {
                return false;
            }
            int sign = takeOne("<=>");
            if (sign < 0) {
                return false;
            }
            int n = readNumber();
            law.addStep(letter * Law.PER_LETTER + sign * Law.PER_SIGN + n);
            return n >= 0;
        }

        /** A number of 1 to 3 digits, no 0 ahead of another; -1, if there is none. */
        private int readNumber() {
            int n = takeOne(DIGITS);
            for (int more = 0; more < 2 && n > 0; more++) {
                int digit = takeOne(DIGITS);
                if (digit < 0) {
                    return n;
                }
                n = n * 10 + digit;
            }
            return n;
        }

        /** Takes one of these signs: which of them it was; -1, if none. */
        private int takeOne(String signs) {
            boolean more = place >= 0 && place < size && place < MOST_BYTES;
            int found = more ? signs.indexOf((char) (bytes[place] & 255)) : -1;
            if (found >= 0) {
                place++;
            }
            return found;
        }

        private boolean take(char sign) {
            if (place < 0 || place >= size || place >= MOST_BYTES || (bytes[place] & 255) != sign) {
                return false;
            }
            place++;
            return true;
        }

        private boolean takeAll(String signs) {
            for (int i = 0; i < signs.length(); i++) {
                if (!take(signs.charAt(i))) {
                    return false;
                }
            }
            return true;
        }
    }

    /** Runs bodies of a LAW's KIND and keeps THE TRACE of them. */
    private static final class Acts {
        final int[] bodies = new int[MOST_TRACED];
        int ran;

        private void begin(int body) {
            if (ran < MOST_TRACED) {
                bodies[ran] = body;
            }
            ran++;
        }

        /** The act's body of this KIND or of the next above that has one, run with x. */
        int run(Law law, int kind, int act, int x, int depth) {
            int holder = holderOf(kind, act);
            if (holder < 0 || depth > DEEPEST) {
                return 0;
            }
            int own = law.kind;
            int above = ABOVE[holder];
            int deeper = depth + 1;
            int body = BODIES[holder * ACTS + act];
            begin(body);
            switch (body) {
                case 1: return x + law.number;
                case 2: return run(law, own, RULES, x, deeper) - law.v;
                case 3: return run(law, own, READS, x, deeper) * 2;
                case 11: return run(law, above, RULES, x * 3, deeper);
                case 21: return -run(law, above, READS, x, deeper);
                case 31: return run(law, above, ANSWERS, x, deeper) ^ 7;
                case 41: return run(law, above, ANSWERS, x - 1, deeper) + run(law, own, RULES, 2, deeper);
                case 51: return run(law, above, RULES, x, deeper) ^ law.number;
                case 61: return run(law, above, READS, x, deeper) + law.v;
                default: return 0;
            }
        }

        /** The KIND, this or the next above, that has a body of the act; -1, if none. */
        private static int holderOf(int kind, int act) {
            int at = kind;
            for (int step = 0; step < KINDS && isKind(at) && act >= 0 && act < ACTS; step++) {
                if (BODIES[at * ACTS + act] != 0) {
                    return at;
                }
                at = ABOVE[at];
            }
            return -1;
        }
    }

    /** All that THE IMAGE takes, and what follows from it. */
    private static final class World {
        /** What a child's answers to a stuff's unchanged askings show. */
        static final int UNASKED = 0, SHOWN = 1, MISSED = 2;

        final Rows children = new Rows(MOST_CHILDREN, CHILD_WIDTH);
        final Rows askings = new Rows(MOST_ASKINGS, ASKING_WIDTH);
        final Rows answers = new Rows(MOST_ANSWERS, ANSWER_WIDTH);
        final Tape tape = new Tape();
        final Law[] laws = new Law[MOST_LAWS];
        int lawCount;

        World() {
            for (int i = 0; i < MOST_LAWS; i++) {
                laws[i] = new Law();
            }
        }

        void copy(World other) {
            children.copy(other.children);
            askings.copy(other.askings);
            answers.copy(other.answers);
            tape.copy(other.tape);
            lawCount = other.lawCount;
            for (int i = 0; i < lawCount && i < MOST_LAWS; i++) {
                laws[i].copy(other.laws[i]);
            }
        }

        boolean hasLaw(int law) {
            return law >= 0 && law < lawCount && law < MOST_LAWS;
        }

        int addChild(int age) {
            int child = children.add();
            children.put(child, AGE, age);
            for (int stuff = 0; stuff < STUFFS; stuff++) {
                children.put(child, TAUGHT + stuff, NEVER);
            }
            return child;
        }

        void growBy(int n) {
            for (int child = 0; child < children.size; child++) {
                children.put(child, AGE, Math.min(children.at(child, AGE) + n, OLDEST));
            }
        }

        /** False, if the child was taught it before: then the earlier age holds. */
        boolean teachNow(int child, int stuff) {
            if (children.at(child, TAUGHT + stuff) != NEVER) {
                return false;
            }
            children.put(child, TAUGHT + stuff, children.at(child, AGE));
            return true;
        }

        boolean isTaughtSome(int child) {
            for (int stuff = 0; stuff < STUFFS; stuff++) {
                if (children.at(child, TAUGHT + stuff) != NEVER) {
                    return true;
                }
            }
            return false;
        }

        // -- what laws keep and tell

        /** The STUFFS that a child keeps at an age by a law's texts, as bits. */
        int keptAt(Law law, int child, int age) {
            int kept = 0;
            for (int stuff = 0; stuff < STUFFS; stuff++) {
                if (age >= law.from[stuff] || children.at(child, TAUGHT + stuff) <= age) {
                    kept |= 1 << stuff;
                }
            }
            for (int over = 0; over < law.overs.size; over++) {
                int taughtAt = children.at(child, TAUGHT + law.overs.at(over, Law.OVER_FROM));
                if (taughtAt <= age - law.overs.at(over, Law.OVER_MONTHS)) {
                    kept |= 1 << law.overs.at(over, Law.OVER_TO);
                }
            }
            return kept;
        }

        int toldNow(int law, int child, int asking) {
            return toldAt(law, child, asking, children.at(child, AGE));
        }

        /** What a law tells of a child, an asking, an age. */
        private int toldAt(int law, int child, int asking, int age) {
            if (!hasLaw(law)) {
                return SAME;
            }
            int said = laws[law].firstSaid(askings, asking, age);
            return said >= 0 ? said : toldByKind(laws[law], keptAt(laws[law], child, age), asking, age);
        }

        private int toldByKind(Law law, int kept, int asking, int age) {
            int needed = 1 << askings.at(asking, STUFF);
            if (law.kind == EACH) {
                // All of lesser numbers, too.
                needed |= needed - 1;
            }
            int truly = askings.at(asking, TRULY) + SAME;
            int looks = asLooks(asking, 1);
            int told = (kept & needed) == needed ? truly : looks;
            switch (law.kind) {
                case LENGTH:
                    return asLooks(asking, law.v);
                case WORDED:
                    int length = asLooks(asking, law.v);
                    return askings.at(asking, WORD) == law.v ? MORE - length : length;
                case KEPT:
                    return told;
                case WANTING:
                    return askings.at(asking, END) == 1 && age >= 6 * law.v ? truly : told;
                case AGAIN:
                case EACH:
                    return told == SAME && isPressed(asking) ? looks : told;
                default:
                    return SAME;
            }
        }

        /** As it looks, by so much at least: MORE, LESS or the SAME. */
        private int asLooks(int asking, int least) {
            int looks = askings.at(asking, LOOKS);
            if (looks >= Math.max(least, 1)) {
                return MORE;
            }
            return looks <= -Math.max(least, 1) ? LESS : SAME;
        }

        /** A man who asks twice is taken to want another answer than the same. */
        private boolean isPressed(int asking) {
            return askings.at(asking, MOVED) == MAN && askings.at(asking, TIMES) == 2;
        }

        // -- odds

        /** Whether the answer is as the law tells, of the age that the child had then. */
        private boolean isAsTold(int law, int answer) {
            int told = toldAt(law, answers.at(answer, WHO), answers.at(answer, ASKED), answers.at(answer, AGE_THEN));
            return told == answers.at(answer, SAID);
        }

        int chanceOf200(int law, int answer) {
            if (!hasLaw(law)) {
                return 0;
            }
            int slip = laws[law].slip;
            return isAsTold(law, answer) ? 200 - 2 * slip : slip;
        }

        boolean isSet(int set) {
            int known = (1 << Math.min(answers.size, FIRST_OF_SET)) - 1;
            return (set & ~known) == 0 && Integer.bitCount(set) <= MOST_IN_SET;
        }

        /** The odds times 200 for each answer of the set: 200 to the 8th is still a long. */
        long oddsAbove(int law, int set) {
            long above = 1;
            for (int answer = 0; answer < FIRST_OF_SET; answer++) {
                if ((set >> answer & 1) == 1) {
                    above *= chanceOf200(law, answer);
                }
            }
            return above;
        }

        int firstImpossible(int law) {
            for (int answer = 0; answer < answers.size; answer++) {
                if (chanceOf200(law, answer) == 0) {
                    return answer;
                }
            }
            return NOTHING;
        }

        /** How many answers of a child, or of ANY, are as the law tells. */
        int rightOf(int law, int child) {
            int right = 0;
            for (int answer = 0; answer < answers.size; answer++) {
                if ((child == ANY || answers.at(answer, WHO) == child) && isAsTold(law, answer)) {
                    right++;
                }
            }
            return right;
        }

        private boolean hasAnswered(int child) {
            for (int answer = 0; answer < answers.size; answer++) {
                if (answers.at(answer, WHO) == child) {
                    return true;
                }
            }
            return false;
        }

        int ruleOf(int child) {
            if (!hasAnswered(child)) {
                return NOTHING;
            }
            int best = NOTHING;
            int most = -1;
            for (int law = 0; law < lawCount; law++) {
                int right = rightOf(law, child);
                if (right > most) {
                    most = right;
                    best = law;
                }
            }
            return best;
        }

        int partings(int law, int other) {
            int partings = 0;
            for (int child = 0; child < children.size; child++) {
                for (int asking = 0; asking < askings.size; asking++) {
                    if (toldNow(law, child, asking) != toldNow(other, child, asking)) {
                        partings++;
                    }
                }
            }
            return partings;
        }

        int bestAsking(int child) {
            int best = NOTHING;
            // A heap of all laws parts nothing, so it is no asking's to be chosen.
            int least = lawCount;
            for (int asking = 0; asking < askings.size; asking++) {
                int heap = greatestHeap(child, asking);
                if (heap < least) {
                    least = heap;
                    best = asking;
                }
            }
            return best;
        }

        private int greatestHeap(int child, int asking) {
            int less = 0;
            int same = 0;
            int more = 0;
            for (int law = 0; law < lawCount; law++) {
                int told = toldNow(law, child, asking);
                if (told == LESS) {
                    less++;
                } else if (told == SAME) {
                    same++;
                } else {
                    more++;
                }
            }
            return Math.max(less, Math.max(same, more));
        }

        // -- what answers show

        private boolean isSame(int answer) {
            return answers.at(answer, SAID) == SAME;
        }

        /** A column of the asking that was answered. */
        private int ofAsked(int answer, int column) {
            return askings.at(answers.at(answer, ASKED), column);
        }

        /** How many answers to unchanged askings, moved by one, so many times (or ANY): all, or those of the same. */
        private long unchanged(int moved, int times, boolean sameOnly) {
            long found = 0;
            for (int answer = 0; answer < answers.size; answer++) {
                boolean fits = ofAsked(answer, TRULY) == 0 && ofAsked(answer, MOVED) == moved
                        && (times == ANY || ofAsked(answer, TIMES) == times);
                if (fits && (!sameOnly || isSame(answer))) {
                    found++;
                }
            }
            return found;
        }

        /** The share of some unchanged answers, less that of others: a part of the fraction. */
        long shareLess(int moved, int times, int lessMoved, int lessTimes, int part) {
            // The share of none is 0: of 1, too, of which none is the same.
            long all = Math.max(unchanged(moved, times, false), 1);
            long lessAll = Math.max(unchanged(lessMoved, lessTimes, false), 1);
            long above = unchanged(moved, times, true) * lessAll - unchanged(lessMoved, lessTimes, true) * all;
            return lowest(above, all * lessAll, part);
        }

        int fooledChildren() {
            int fooled = 0;
            for (int answer = 0; answer < answers.size; answer++) {
                if (isSame(answer) && ofAsked(answer, TRULY) != 0) {
                    fooled |= 1 << answers.at(answer, WHO);
                }
            }
            return fooled;
        }

        /** UNASKED, SHOWN or MISSED. */
        private int stepOf(int child, int stuff) {
            int step = UNASKED;
            for (int answer = 0; answer < answers.size; answer++) {
                boolean fits = answers.at(answer, WHO) == child && ofAsked(answer, STUFF) == stuff
                        && ofAsked(answer, TRULY) == 0;
                if (fits && !isSame(answer)) {
                    return MISSED;
                }
                if (fits) {
                    step = SHOWN;
                }
            }
            return step;
        }

        private boolean isAllAtOnce(int child) {
            int shown = 0;
            int missed = 0;
            for (int stuff = 0; stuff < STUFFS; stuff++) {
                int step = stepOf(child, stuff);
                shown += step == SHOWN ? 1 : 0;
                missed += step == MISSED ? 1 : 0;
            }
            return shown + missed >= 2 && (shown == 0 || missed == 0);
        }

        int allAtOnce() {
            int alike = 0;
            for (int child = 0; child < children.size; child++) {
                if (isAllAtOnce(child)) {
                    alike |= 1 << child;
                }
            }
            return alike;
        }

        int shownBefore(int k, int j) {
            int found = 0;
            for (int child = 0; child < children.size; child++) {
                if (stepOf(child, k) == SHOWN && stepOf(child, j) == MISSED) {
                    found++;
                }
            }
            return found;
        }

        int ageOf(int stuff, boolean needsWhy) {
            for (int age = YOUNGEST; age <= OLDEST; age++) {
                if (isMostlyKept(stuff, age, needsWhy)) {
                    return age;
                }
            }
            return NOTHING;
        }

        /** Whether of the stuff's unchanged answers at this age or above more than half are the same. */
        private boolean isMostlyKept(int stuff, int age, boolean needsWhy) {
            int all = 0;
            int same = 0;
            for (int answer = 0; answer < answers.size; answer++) {
                boolean fits = answers.at(answer, AGE_THEN) >= age && ofAsked(answer, STUFF) == stuff
                        && ofAsked(answer, TRULY) == 0;
                if (fits) {
                    all++;
                }
                if (fits && isSame(answer) && (!needsWhy || answers.at(answer, WHY) == 1)) {
                    same++;
                }
            }
            return same * 2 > all;
        }
    }
}
