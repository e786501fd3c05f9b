import java.math.BigInteger;
import java.util.ArrayList;
import java.util.List;
import java.util.regex.Pattern;

/**
 * The document once more, in another way: laws stay texts that are split anew each time, faults are
 * found by trying how a beginning could go on, acts are methods that Java itself overrides.
 */
final class Model {
    static final long NO = Long.MIN_VALUE;

    static final class Child {
        int age;
        Integer[] taught = new Integer[4];

        Child copy() {
            Child child = new Child();
            child.age = age;
            child.taught = taught.clone();
            return child;
        }
    }

    record Asking(int stuff, int moved, int times, int end, int word, int looks, int truly) {
        boolean changed() {
            return truly != 0;
        }

        int looking() {
            return Integer.signum(looks) + 1;
        }
    }

    record Answer(int child, int asking, int said, boolean why, int age) {
    }

    /** Everything that an image takes. */
    static final class All {
        List<Child> children = new ArrayList<>();
        List<Asking> askings = new ArrayList<>();
        List<Answer> answers = new ArrayList<>();
        List<Kind> laws = new ArrayList<>();
        String tape = "";

        All copy() {
            All all = new All();
            for (Child child : children) {
                all.children.add(child.copy());
            }
            all.askings.addAll(askings);
            all.answers.addAll(answers);
            all.laws.addAll(laws);
            all.tape = tape;
            return all;
        }
    }

    private All all = new All();
    private All image = null;
    private List<Integer> trace = new ArrayList<>();

    // ---- the kinds, as Java's own classes

    static class Kind {
        String[] clauses;
        int i;
        int v;
        int kind;
        List<Integer> ran;

        int rules(int x) {
            ran.add(1);
            return x + i;
        }

        int reads(int x) {
            ran.add(2);
            return rules(x) - v;
        }

        int answers(int x) {
            ran.add(3);
            return reads(x) * 2;
        }

        int byKind(Child child, Asking a, int age) {
            return 1;
        }

        final int[] numbers(String clause) {
            String[] words = clause.split(" ");
            int[] numbers = new int[words.length - 1];
            for (int n = 1; n < words.length; n++) {
                numbers[n - 1] = Integer.parseInt(words[n]);
            }
            return numbers;
        }

        final int from(int stuff) {
            int from = 84;
            for (String clause : clauses) {
                if (clause.startsWith("from") && numbers(clause)[0] == stuff) {
                    from = numbers(clause)[1];
                }
            }
            return from;
        }

        final int slip() {
            int slip = 0;
            for (String clause : clauses) {
                if (clause.startsWith("slip")) {
                    slip = Math.min(100, numbers(clause)[0]);
                }
            }
            return slip;
        }

        final boolean keeps(Child child, int stuff, int age) {
            if (age >= from(stuff) || child.taught[stuff] != null && child.taught[stuff] <= age) {
                return true;
            }
            for (String clause : clauses) {
                if (clause.startsWith("over")) {
                    int[] over = numbers(clause);
                    if (over[1] == stuff && child.taught[over[0]] != null && age - child.taught[over[0]] >= over[2]) {
                        return true;
                    }
                }
            }
            return false;
        }

        final int tells(Child child, Asking a, int age) {
            for (String clause : clauses) {
                if (clause.startsWith("say") && either(clause.substring(6), a, age)) {
                    return clause.charAt(4) - '0';
                }
            }
            return byKind(child, a, age);
        }
    }

    static class Length extends Kind {
        @Override
        int rules(int x) {
            ran.add(11);
            return super.rules(x * 3);
        }

        @Override
        int byKind(Child child, Asking a, int age) {
            int least = v == 0 ? 1 : v;
            return a.looks >= least ? 2 : a.looks <= -least ? 0 : 1;
        }
    }

    static class Kept extends Kind {
        @Override
        int reads(int x) {
            ran.add(21);
            return -super.reads(x);
        }

        boolean does(Child child, Asking a, int age) {
            return keeps(child, a.stuff, age);
        }

        @Override
        int byKind(Child child, Asking a, int age) {
            return does(child, a, age) ? a.truly + 1 : a.looking();
        }
    }

    static class Again extends Kept {
        @Override
        int answers(int x) {
            ran.add(31);
            return super.answers(x) ^ 7;
        }

        @Override
        int byKind(Child child, Asking a, int age) {
            int told = super.byKind(child, a, age);
            return told == 1 && a.moved == 0 && a.times == 2 ? a.looking() : told;
        }
    }

    static class Worded extends Length {
        @Override
        int answers(int x) {
            ran.add(41);
            return super.answers(x - 1) + rules(2);
        }

        @Override
        int byKind(Child child, Asking a, int age) {
            int told = super.byKind(child, a, age);
            return a.word == v ? new int[] {2, 1, 0}[told] : told;
        }
    }

    static class Wanting extends Kept {
        @Override
        int rules(int x) {
            ran.add(51);
            return super.rules(x) ^ i;
        }

        @Override
        int byKind(Child child, Asking a, int age) {
            return a.end == 1 && age >= 6 * v ? a.truly + 1 : super.byKind(child, a, age);
        }
    }

    static class Each extends Again {
        @Override
        int reads(int x) {
            ran.add(61);
            return super.reads(x) + v;
        }

        @Override
        boolean does(Child child, Asking a, int age) {
            for (int lesser = 0; lesser < a.stuff; lesser++) {
                if (!keeps(child, lesser, age)) {
                    return false;
                }
            }
            return super.does(child, a, age);
        }
    }

    private static Kind made(int kind) {
        switch (kind) {
            case 1: return new Length();
            case 2: return new Kept();
            case 3: return new Again();
            case 4: return new Worded();
            case 5: return new Wanting();
            case 6: return new Each();
            default: return new Kind();
        }
    }

    private static boolean isUnder(Kind law, int k) {
        switch (k) {
            case 1: return law instanceof Length;
            case 2: return law instanceof Kept;
            case 3: return law instanceof Again;
            case 4: return law instanceof Worded;
            case 5: return law instanceof Wanting;
            case 6: return law instanceof Each;
            default: return true;
        }
    }

    // ---- texts

    private static final String NUMBER = "(0|[1-9][0-9]{0,2})";
    private static final Pattern TEST = Pattern.compile("[akmtewc][<=>]" + NUMBER);
    private static final Pattern PLAIN = Pattern.compile("from [0-3] N|over [0-3] [0-3] N|slip N".replace("N", NUMBER));
    private static final Pattern SAY = Pattern.compile("(?s)say [0-2] .*");

    /** Where a sign stands first outside of brackets; -1. */
    private static int outside(String text, char sign) {
        int depth = 0;
        for (int i = 0; i < text.length(); i++) {
            char c = text.charAt(i);
            depth += c == '(' ? 1 : c == ')' ? -1 : 0;
            if (c == sign && depth == 0) {
                return i;
            }
        }
        return -1;
    }

    private static boolean either(String e, Asking a, int age) {
        int at = outside(e, '|');
        return at < 0 ? both(e, a, age) : both(e.substring(0, at), a, age) | either(e.substring(at + 1), a, age);
    }

    private static boolean both(String t, Asking a, int age) {
        int at = outside(t, '&');
        return at < 0 ? holds(t, a, age) : holds(t.substring(0, at), a, age) & both(t.substring(at + 1), a, age);
    }

    private static boolean holds(String f, Asking a, int age) {
        if (f.charAt(0) == '!') {
            return !holds(f.substring(1), a, age);
        }
        if (f.charAt(0) == '(') {
            return either(f.substring(1, f.length() - 1), a, age);
        }
        int n = Integer.parseInt(f.substring(2));
        int is;
        switch (f.charAt(0)) {
            case 'a': is = age; break;
            case 'k': is = a.stuff; break;
            case 'm': is = a.moved; break;
            case 't': is = a.times; break;
            case 'e': is = a.end; break;
            case 'w': is = a.word; break;
            default: is = a.changed() ? 1 : 0;
        }
        return f.charAt(1) == '<' ? is < n : f.charAt(1) == '=' ? is == n : is > n;
    }

    private static boolean isEither(String e, int free) {
        int at = outside(e, '|');
        return at < 0 ? isBoth(e, free) : isBoth(e.substring(0, at), free) && isEither(e.substring(at + 1), free);
    }

    private static boolean isBoth(String t, int free) {
        int at = outside(t, '&');
        return at < 0 ? isPart(t, free) : isPart(t.substring(0, at), free) && isBoth(t.substring(at + 1), free);
    }

    private static boolean isPart(String f, int free) {
        if (f.startsWith("!")) {
            return free > 0 && isPart(f.substring(1), free - 1);
        }
        if (f.startsWith("(") && f.endsWith(")")) {
            return free > 0 && isEither(f.substring(1, f.length() - 1), free - 1);
        }
        return TEST.matcher(f).matches();
    }

    static boolean isLaw(String text) {
        String[] clauses = text.split(";", -1);
        if (clauses.length > 10) {
            return false;
        }
        for (String clause : clauses) {
            boolean isSay = clause.startsWith("say ") && SAY.matcher(clause).matches();
            if (isSay ? !isEither(clause.substring(6), 5) : !PLAIN.matcher(clause).matches()) {
                return false;
            }
        }
        return true;
    }

    /** Whether a LAW can begin so: tries endings of the shortest clauses with brackets closed. */
    static boolean canGoOn(String beginning) {
        for (String clause : new String[] {"from 0 0", "over 0 0 0", "say 0 a=0", "slip 0"}) {
            for (int cut = 0; cut <= clause.length(); cut++) {
                String closed = beginning + clause.substring(cut);
                for (int brackets = 0; brackets <= 5; brackets++) {
                    if (isLaw(closed)) {
                        return true;
                    }
                    closed += ")";
                }
            }
        }
        return false;
    }

    /** -1, if the text is a law. */
    static int fault(String text) {
        if (isLaw(text)) {
            return -1;
        }
        int good = 0;
        int bad = text.length() + 1;
        while (bad - good > 1) {
            int middle = (good + bad) / 2;
            if (canGoOn(text.substring(0, middle))) {
                good = middle;
            } else {
                bad = middle;
            }
        }
        return good;
    }

    // ---- the calls

    private static boolean in(int x, int least, int most) {
        return x >= least && x <= most;
    }

    private boolean isChild(int child) {
        return in(child, 0, all.children.size() - 1);
    }

    private boolean isAsking(int asking) {
        return in(asking, 0, all.askings.size() - 1);
    }

    private boolean isAnswer(int answer) {
        return in(answer, 0, all.answers.size() - 1);
    }

    private boolean isLaw(int law) {
        return in(law, 0, all.laws.size() - 1);
    }

    int child(int age) {
        if (!in(age, 24, 120)) {
            return -2;
        }
        if (all.children.size() == 8) {
            return -4;
        }
        Child child = new Child();
        child.age = age;
        all.children.add(child);
        return all.children.size() - 1;
    }

    int age(int child) {
        return isChild(child) ? all.children.get(child).age : -1;
    }

    int grow(int n) {
        if (!in(n, 1, 60)) {
            return -2;
        }
        for (Child child : all.children) {
            child.age = Math.min(120, child.age + n);
        }
        return all.children.size();
    }

    int asking(int stuff, int moved, int times, boolean eat, int word, int looks, int truly) {
        if (!in(stuff, 0, 3) || !in(moved, 0, 2)) {
            return -1;
        }
        if (!in(times, 1, 2) || !in(word, 0, 3) || !in(looks, -9, 9) || !in(truly, -1, 1)) {
            return -2;
        }
        if (all.askings.size() == 16) {
            return -4;
        }
        all.askings.add(new Asking(stuff, moved, times, eat ? 1 : 0, word, looks, truly));
        return all.askings.size() - 1;
    }

    int of(int asking, int what) {
        if (!isAsking(asking)) {
            return -1001;
        }
        Asking a = all.askings.get(asking);
        switch (what) {
            case 0: return a.stuff;
            case 1: return a.moved;
            case 2: return a.times;
            case 3: return a.end;
            case 4: return a.word;
            case 5: return a.looks;
            case 6: return a.truly;
            default: return -1001;
        }
    }

    int answer(int child, int asking, int said, boolean why) {
        if (!isChild(child) || !isAsking(asking)) {
            return -1;
        }
        if (!in(said, 0, 2)) {
            return -2;
        }
        if (all.answers.size() == 40) {
            return -4;
        }
        all.answers.add(new Answer(child, asking, said, why, age(child)));
        return all.answers.size() - 1;
    }

    int answered(int answer, int what) {
        if (!isAnswer(answer)) {
            return -1;
        }
        Answer a = all.answers.get(answer);
        switch (what) {
            case 0: return a.child;
            case 1: return a.asking;
            case 2: return a.said;
            case 3: return a.why ? 1 : 0;
            case 4: return a.age;
            default: return -1;
        }
    }

    int teach(int child, int stuff) {
        if (!isChild(child) || !in(stuff, 0, 3)) {
            return -1;
        }
        Child c = all.children.get(child);
        if (c.taught[stuff] != null) {
            return 0;
        }
        c.taught[stuff] = c.age;
        return 1;
    }

    int feed(long w, int n) {
        if (!in(n, 1, 8)) {
            return -2;
        }
        if (all.tape.length() + n > 120) {
            return -4;
        }
        StringBuilder fed = new StringBuilder();
        for (int i = 0; i < n; i++) {
            fed.insert(0, (char) (w >>> (8 * i) & 255));
        }
        all.tape += fed;
        return all.tape.length();
    }

    int law(int kind, int v) {
        if (!in(kind, 0, 6)) {
            return -1;
        }
        if (!in(v, 0, 9)) {
            return -2;
        }
        if (all.laws.size() == 8) {
            return -4;
        }
        String text = all.tape;
        all.tape = "";
        int fault = fault(text);
        if (fault >= 0) {
            return -10 - fault;
        }
        Kind law = made(kind);
        law.kind = kind;
        law.v = v;
        law.i = all.laws.size();
        law.clauses = text.split(";");
        all.laws.add(law);
        return law.i;
    }

    int told(int law, int what) {
        if (!isLaw(law)) {
            return -1;
        }
        Kind one = all.laws.get(law);
        return what == 0 ? one.kind : what == 1 ? one.v : what == 2 ? one.slip()
                : in(what, 10, 13) ? one.from(what - 10) : -1;
    }

    int keeps(int law, int child, int stuff) {
        if (!isLaw(law) || !isChild(child) || !in(stuff, 0, 3)) {
            return -1;
        }
        return all.laws.get(law).keeps(all.children.get(child), stuff, age(child)) ? 1 : 0;
    }

    int tells(int law, int child, int asking) {
        if (!isLaw(law) || !isChild(child) || !isAsking(asking)) {
            return -1;
        }
        return all.laws.get(law).tells(all.children.get(child), all.askings.get(asking), age(child));
    }

    private boolean asTold(int law, Answer a) {
        return all.laws.get(law).tells(all.children.get(a.child), all.askings.get(a.asking), a.age) == a.said;
    }

    private Fraction chanceOf(int law, Answer a) {
        int slip = all.laws.get(law).slip();
        return new Fraction(asTold(law, a) ? 200 - 2 * slip : slip, 200);
    }

    private Fraction oddsOf(int law, int set) {
        Fraction odds = new Fraction(1, 1);
        for (int i = 0; i < 30; i++) {
            if ((set & 1 << i) != 0) {
                odds = odds.times(chanceOf(law, all.answers.get(i)));
            }
        }
        return odds;
    }

    private boolean isSet(int set) {
        int bits = 0;
        for (int i = 0; i < 32; i++) {
            if ((set & 1 << i) != 0) {
                bits++;
                if (i >= 30 || !isAnswer(i)) {
                    return false;
                }
            }
        }
        return bits <= 8;
    }

    long chance(int law, int answer, int part) {
        if (!isLaw(law) || !isAnswer(answer) || !in(part, 0, 1)) {
            return NO;
        }
        return chanceOf(law, all.answers.get(answer)).part(part);
    }

    long odds(int law, int answers, int part) {
        if (!isLaw(law) || !isSet(answers) || !in(part, 0, 1)) {
            return NO;
        }
        return oddsOf(law, answers).part(part);
    }

    int cannot(int law) {
        if (!isLaw(law)) {
            return -1;
        }
        for (int i = 0; i < all.answers.size(); i++) {
            if (chanceOf(law, all.answers.get(i)).part(0) == 0) {
                return i;
            }
        }
        return -5;
    }

    int right(int law) {
        return isLaw(law) ? (int) all.answers.stream().filter(a -> asTold(law, a)).count() : -1;
    }

    int likeliest(int answers) {
        if (!isSet(answers)) {
            return -2;
        }
        int best = -5;
        for (int law = all.laws.size() - 1; law >= 0; law--) {
            if (best < 0 || oddsOf(law, answers).minus(oddsOf(best, answers)).part(0) >= 0) {
                best = law;
            }
        }
        return best;
    }

    int rule(int child) {
        if (!isChild(child)) {
            return -1;
        }
        if (all.answers.stream().noneMatch(a -> a.child == child)) {
            return -5;
        }
        int best = -5;
        long most = -1;
        for (int i = 0; i < all.laws.size(); i++) {
            int law = i;
            long right = all.answers.stream().filter(a -> a.child == child && asTold(law, a)).count();
            if (right > most) {
                most = right;
                best = law;
            }
        }
        return best;
    }

    int parts(int law, int other) {
        if (!isLaw(law) || !isLaw(other)) {
            return -1;
        }
        int parts = 0;
        for (int c = 0; c < all.children.size(); c++) {
            for (int a = 0; a < all.askings.size(); a++) {
                parts += tells(law, c, a) != tells(other, c, a) ? 1 : 0;
            }
        }
        return parts;
    }

    int next(int child) {
        if (!isChild(child)) {
            return -1;
        }
        int best = -5;
        int least = Integer.MAX_VALUE;
        boolean parted = false;
        for (int a = 0; a < all.askings.size(); a++) {
            int[] heaps = new int[3];
            for (int law = 0; law < all.laws.size(); law++) {
                heaps[tells(law, child, a)]++;
            }
            int heap = Math.max(heaps[0], Math.max(heaps[1], heaps[2]));
            parted |= heap != all.laws.size();
            if (heap < least) {
                least = heap;
                best = a;
            }
        }
        return parted ? best : -5;
    }

    private Asking asked(Answer a) {
        return all.askings.get(a.asking);
    }

    private Fraction share(int moved, int leastTimes, int mostTimes) {
        int same = 0;
        int count = 0;
        for (Answer a : all.answers) {
            Asking asked = asked(a);
            if (!asked.changed() && asked.moved == moved && in(asked.times, leastTimes, mostTimes)) {
                count++;
                same += a.said == 1 ? 1 : 0;
            }
        }
        return count == 0 ? new Fraction(0, 1) : new Fraction(same, count);
    }

    long moves(int what, int part) {
        if (!in(what, 0, 1) || !in(part, 0, 1)) {
            return NO;
        }
        Fraction moves = what == 0 ? share(0, 2, 2).minus(share(0, 1, 1)) : share(1, 1, 2).minus(share(0, 1, 2));
        return moves.part(part);
    }

    int fooled() {
        int bits = 0;
        for (Answer a : all.answers) {
            if (a.said == 1 && asked(a).changed()) {
                bits |= 1 << a.child;
            }
        }
        return bits;
    }

    /** 'S' shown, 'M' missed, '-' neither. */
    private char step(int child, int stuff) {
        char step = '-';
        for (Answer a : all.answers) {
            if (a.child == child && asked(a).stuff == stuff && !asked(a).changed()) {
                step = a.said == 1 && step != 'M' ? 'S' : 'M';
            }
        }
        return step;
    }

    int once() {
        int bits = 0;
        for (int c = 0; c < all.children.size(); c++) {
            String steps = "" + step(c, 0) + step(c, 1) + step(c, 2) + step(c, 3);
            steps = steps.replace("-", "");
            if (steps.length() >= 2 && (steps.replace("S", "").isEmpty() || steps.replace("M", "").isEmpty())) {
                bits |= 1 << c;
            }
        }
        return bits;
    }

    int order(int k, int j) {
        if (!in(k, 0, 3) || !in(j, 0, 3)) {
            return -1;
        }
        if (k == j) {
            return -2;
        }
        int count = 0;
        for (int c = 0; c < all.children.size(); c++) {
            count += step(c, k) == 'S' && step(c, j) == 'M' ? 1 : 0;
        }
        return count;
    }

    int from(int stuff, boolean why) {
        if (!in(stuff, 0, 3)) {
            return -1;
        }
        for (int age = 24; age <= 120; age++) {
            int least = age;
            long some = all.answers.stream().filter(a -> a.age >= least && asked(a).stuff == stuff && !asked(a).changed()).count();
            long same = all.answers.stream().filter(a -> a.age >= least && asked(a).stuff == stuff && !asked(a).changed()
                    && a.said == 1 && (a.why || !why)).count();
            if (some > 0 && new Fraction(same, some).minus(new Fraction(1, 2)).part(0) > 0) {
                return age;
            }
        }
        return -5;
    }

    int spread(int law, int child, int n) {
        if (!isLaw(law) || !isChild(child)) {
            return -1;
        }
        if (!in(n, 0, 99)) {
            return -2;
        }
        Child c = all.children.get(child);
        if (c.taught[0] == null && c.taught[1] == null && c.taught[2] == null && c.taught[3] == null) {
            return -3;
        }
        int bits = 0;
        for (int stuff = 0; stuff < 4; stuff++) {
            bits |= all.laws.get(law).keeps(c, stuff, c.age + n) ? 1 << stuff : 0;
        }
        return bits;
    }

    int act(int law, int act, int x) {
        trace = new ArrayList<>();
        if (!isLaw(law) || !in(act, 0, 2)) {
            return 0;
        }
        Kind one = all.laws.get(law);
        one.ran = trace;
        return act == 0 ? one.rules(x) : act == 1 ? one.reads(x) : one.answers(x);
    }

    int trace(int i) {
        return in(i, 0, Math.min(20, trace.size()) - 1) ? trace.get(i) : -1;
    }

    int as(int law, int k) {
        if (!isLaw(law) || !in(k, 0, 6)) {
            return -1;
        }
        return isUnder(all.laws.get(law), k) ? all.laws.get(law).v : -6;
    }

    int image() {
        image = all.copy();
        return all.children.size();
    }

    int undo() {
        if (image == null) {
            return -3;
        }
        all = image.copy();
        return all.children.size();
    }

    int count(int what) {
        switch (what) {
            case 0: return all.children.size();
            case 1: return all.askings.size();
            case 2: return all.answers.size();
            case 3: return all.laws.size();
            case 4: return all.tape.length();
            case 5: return trace.size();
            default: return -1;
        }
    }

    static final class Fraction {
        private final BigInteger above;
        private final BigInteger below;

        Fraction(long above, long below) {
            this(BigInteger.valueOf(above), BigInteger.valueOf(below));
        }

        private Fraction(BigInteger above, BigInteger below) {
            BigInteger shared = above.gcd(below);
            this.above = above.divide(shared);
            this.below = below.divide(shared);
        }

        Fraction times(Fraction other) {
            return new Fraction(above.multiply(other.above), below.multiply(other.below));
        }

        Fraction minus(Fraction other) {
            return new Fraction(above.multiply(other.below).subtract(other.above.multiply(below)),
                    below.multiply(other.below));
        }

        long part(int part) {
            return (part == 0 ? above : below).longValueExact();
        }
    }
}
