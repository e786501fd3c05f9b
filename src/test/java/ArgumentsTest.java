import java.lang.reflect.Method;
import java.lang.reflect.Modifier;
import java.util.ArrayList;
import java.util.Arrays;
import java.util.Comparator;
import java.util.List;

/** Every call with all sorts of arguments, on a new object, on one of some of all, and on a full one: as the Model. */
public final class ArgumentsTest {
    private static final Check CHECK = new Check();
    /** What a state needs and what is asked then stay within the 512 calls of an object. */
    private static final int CALLS_OF_A_STATE = 300;

    private static final int[] NUMBERS = {Integer.MIN_VALUE, Integer.MIN_VALUE + 10, -1001, -10, -9, -2, -1, 0, 1, 2, 3, 4, 5, 6, 7, 8, 9, 10,
        13, 14, 15, 16, 24, 29, 30, 39, 40, 60, 61, 99, 100, 120, 121, 255, 511, 1 << 29, 1 << 30, Integer.MAX_VALUE - 10, Integer.MAX_VALUE};
    private static final int[] FEW = {Integer.MIN_VALUE, -1, 0, 1, 2, 3, 7, 8, 15, 16, 39, 40, Integer.MAX_VALUE};
    private static final long[] BYTES = {0, -1, Long.MIN_VALUE, Long.MAX_VALUE, 0x736c69702031L, 0x3b3b3b3b3b3b3b3bL};

    private final int state;
    private SameWater water;
    private Model model;
    private int calls;

    private ArgumentsTest(int state) {
        this.state = state;
    }

    public static void main(String[] args) throws Exception {
        Method[] methods = SameWater.class.getDeclaredMethods();
        Arrays.sort(methods, Comparator.comparing(Method::getName));
        int called = 0;
        for (int state = 0; state < 3; state++) {
            ArgumentsTest test = new ArgumentsTest(state);
            for (Method method : methods) {
                if (Modifier.isPublic(method.getModifiers())) {
                    test.every(method);
                    called++;
                }
            }
        }
        CHECK.due("methods", called, 3 * 33);
        CHECK.end();
    }

    // ---- states

    private void make() {
        water = new SameWater();
        model = new Model();
        calls = 0;
        int rows = state == 0 ? 0 : state == 1 ? 1 : 2;
        for (int i = 0; i < 4 * rows; i++) {
            water.child(30 + 12 * i);
            model.child(30 + 12 * i);
            law(i);
            water.teach(i, i % 4);
            model.teach(i, i % 4);
        }
        for (int i = 0; i < 8 * rows; i++) {
            water.asking(i % 4, i % 3, 1 + i % 2, i > 4, i % 4, i - 7, i % 5 == 4 ? 1 : 0);
            model.asking(i % 4, i % 3, 1 + i % 2, i > 4, i % 4, i - 7, i % 5 == 4 ? 1 : 0);
        }
        for (int i = 0; i < 20 * rows; i++) {
            water.answer(i % (4 * rows), i * 3 % (8 * rows), i % 4 % 3, i % 2 == 0);
            model.answer(i % (4 * rows), i * 3 % (8 * rows), i % 4 % 3, i % 2 == 0);
        }
        for (int i = 0; i < 15 * rows / 2; i++) {
            water.feed(0x736c697020313b3bL, 8);
            model.feed(0x736c697020313b3bL, 8);
        }
        if (rows > 0) {
            water.image();
            model.image();
        }
    }

    private void law(int i) {
        for (long bytes : new long[] {0x66726f6d20302034L, 0x303b736c69702030L + i}) {
            water.feed(bytes, 8);
            model.feed(bytes, 8);
        }
        water.law(i % 7, i);
        model.law(i % 7, i);
    }

    // ---- arguments

    private void every(Method method) throws Exception {
        Method second = Model.class.getDeclaredMethod(method.getName(), method.getParameterTypes());
        make();
        for (Object[] arguments : arguments(method.getParameterTypes())) {
            if (calls >= CALLS_OF_A_STATE) {
                make();
            }
            calls++;
            String call = "state " + state + ": " + method.getName() + Arrays.toString(arguments);
            long got = ((Number) method.invoke(water, arguments)).longValue();
            CHECK.due(call, got, ((Number) second.invoke(model, arguments)).longValue());
            for (int what = 0; calls % 50 == 0 && what <= 5; what++) {
                CHECK.due("count " + what + " after " + call, water.count(what), model.count(what));
            }
        }
    }

    /** Up to two parameters all numbers, three a few of them; asking's are changed two by two. */
    private static List<Object[]> arguments(Class<?>[] types) {
        if (types.length == 7) {
            return askings();
        }
        List<Object[]> all = new ArrayList<>();
        all.add(new Object[0]);
        for (Class<?> type : types) {
            List<Object[]> longer = new ArrayList<>();
            for (Object[] arguments : all) {
                for (Object value : values(type, types.length < 3 ? NUMBERS : FEW)) {
                    Object[] more = Arrays.copyOf(arguments, arguments.length + 1);
                    more[arguments.length] = value;
                    longer.add(more);
                }
            }
            all = longer;
        }
        return all;
    }

    private static List<Object> values(Class<?> type, int[] numbers) {
        List<Object> values = new ArrayList<>();
        if (type == boolean.class) {
            values.add(false);
            values.add(true);
        } else if (type == long.class) {
            for (long bytes : BYTES) {
                values.add(bytes);
            }
        } else {
            for (int number : numbers) {
                values.add(number);
            }
        }
        return values;
    }

    private static List<Object[]> askings() {
        List<Object[]> all = new ArrayList<>();
        for (int first = 0; first < 7; first++) {
            for (int second = first + 1; second < 7; second++) {
                for (int one : FEW) {
                    for (int other : FEW) {
                        Object[] arguments = {0, 0, 1, false, 0, 0, 0};
                        arguments[first] = first == 3 ? (Object) (one > 0) : (Object) one;
                        arguments[second] = second == 3 ? (Object) (other > 0) : (Object) other;
                        all.add(arguments);
                    }
                }
            }
        }
        return all;
    }
}
