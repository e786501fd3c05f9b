import java.util.ArrayList;
import java.util.List;
import java.util.function.ToLongFunction;

/** Calls in a row, each with its name and, where one is told, the answer that is due. */
final class Script {
    private record Call(String name, Long due, ToLongFunction<SameWater> call) {
    }

    private final List<Call> calls = new ArrayList<>();

    int size() {
        return calls.size();
    }

    Script due(String name, long due, ToLongFunction<SameWater> call) {
        calls.add(new Call(name, due, call));
        return this;
    }

    /** A call of which the answer is only compared with that of another time. */
    Script look(String name, ToLongFunction<SameWater> call) {
        calls.add(new Call(name, null, call));
        return this;
    }

    Script then(Script other) {
        calls.addAll(other.calls);
        return this;
    }

    /** This, and this again and again from its place first on, till there are so many calls. */
    Script upTo(int size, int first) {
        for (int i = first; calls.size() < size; i++) {
            calls.add(calls.get(i));
        }
        return this;
    }

    String name(int i) {
        return calls.get(i).name;
    }

    /** Makes one of the calls and checks it, if its answer is told. */
    long play(SameWater x, int i, Check check, String run) {
        Call call = calls.get(i);
        long got = call.call.applyAsLong(x);
        if (call.due != null) {
            check.due(run + ", call " + i + ": " + call.name, got, call.due);
        }
        return got;
    }

    long[] play(SameWater x, Check check, String run) {
        long[] got = new long[size()];
        for (int i = 0; i < got.length; i++) {
            got[i] = play(x, i, check, run);
        }
        return got;
    }

    /** Bytes of a text on THE TAPE, so many calls of feed as it needs, which tell how many it has. */
    Script write(String text) {
        for (int at = 0; at < text.length(); at += 8) {
            int end = Math.min(text.length(), at + 8);
            long w = 0;
            for (int i = at; i < end; i++) {
                w = w << 8 | text.charAt(i) & 255;
            }
            long fed = w;
            int n = end - at;
            due("feed " + text.substring(at, end), end, x -> x.feed(fed, n));
        }
        return this;
    }

    Script law(int kind, int v, String text, long due) {
        write(text);
        return due("law " + text, due, x -> x.law(kind, v));
    }
}
