import java.lang.reflect.InvocationTargetException;
import java.lang.reflect.Method;
import java.util.ArrayList;
import java.util.Arrays;
import java.util.HashMap;
import java.util.List;
import java.util.Map;

/**
 * Each call with one or two of its numbers at, beside and far beyond the edges that the document names, on objects
 * of three states: the answer, and what has become of the object, set against the Model's. No call may throw.
 */
public final class EdgePairs {
    private static final int[] EDGES = {Integer.MIN_VALUE, -2, -1, 0, 1, 3, 4, 5, 6, 7, 9, 10, 59, 60, 61, 99, 100, 127, 128,
        9999, 10000, 99999, 100000, Integer.MAX_VALUE};

    private final NineWindows x = new NineWindows();
    private final Model m = new Model();

    /** By name: the call of NineWindows, and the Model's. */
    private static final Map<String, Method[]> CALLS = new HashMap<>();

    private static Method[] find(String name) {
        Method a = null;
        Method b = null;
        for (Method each : NineWindows.class.getMethods()) if (each.getName().equals(name) && isFace(each)) a = each;
        for (Method each : Model.class.getDeclaredMethods()) {
            if (a != null && each.getName().equals(name) && Arrays.equals(a.getParameterTypes(), each.getParameterTypes())) b = each;
        }
        if (a == null || b == null) throw new IllegalStateException("no such call: " + name);
        return new Method[] {a, b};
    }

    /** Does a call on both. */
    private void both(String name, Object... args) throws ReflectiveOperationException {
        Method[] call = CALLS.computeIfAbsent(name, EdgePairs::find);
        long want = ((Number) call[1].invoke(m, args)).longValue();
        try {
            long got = ((Number) call[0].invoke(x, args)).longValue();
            if (got == want) Check.due(name, got, want);
            else Check.due(name + Arrays.toString(args), got, want);
        } catch (InvocationTargetException e) {
            System.out.println(name + Arrays.toString(args) + " threw " + e.getCause());
            Check.due(name + " threw", 1, 0);
        }
    }

    private static boolean isFace(Method m) {
        return m.getDeclaringClass() == NineWindows.class;
    }

    private void make(int state) throws ReflectiveOperationException {
        if (state == 0) return;
        int[] kinds = {6, 4, 4, 5, 3, 1, 2};
        for (int w = 0; w < (state == 1 ? 5 : 7); w++) both("window", kinds[w], 3 + w, w % 4, w % 5, 1 + w);
        both("storm", 3, 3);
        both("add", 2);
        both("add", 0);
        both("put", 3, true);
        for (int n = 0; n < (state == 1 ? 2 : 6); n++) both("see", 3, 0);
        for (int n = 0; n < (state == 1 ? 2 : 8); n++) both("book", n % 4, 6 * n);
        String text = state == 1 ? "wet 1" : "wet 4 f>0;last 31";
        for (int i = 0; i < text.length(); i++) both("feed", (int) text.charAt(i));
        if (state == 2) both("house");
        for (int tape = 0; tape < 5; tape++) both("tape", tape, tape, state == 1 ? 3 : 60);
        both("image");
        both("act", 0, 2, 1);
        if (state == 2) both("shut", 0);
    }

    private void setSideBySide() throws ReflectiveOperationException {
        for (int what = 0; what < 9; what++) both("told", what);
        for (int what = 0; what < 7; what++) both("count", what);
        for (int w = 0; w < 7; w++) {
            for (int what = 0; what < 8; what++) both("of", w, what);
        }
        both("round", 0);
        both("trace", 0);
        both("on", 30);
        both("from");
        both("looked");
        for (int tape = 0; tape < 6; tape++) {
            both("read", tape, 0);
            both("read", tape, 59);
        }
    }

    private static Object asType(Class<?> type, int n) {
        if (type == boolean.class) return (n & 1) == 1;
        if (type == long.class) return (long) n;
        return n;
    }

    private static void go(String name, Class<?>[] types, int[] numbers, int state) throws ReflectiveOperationException {
        EdgePairs e = new EdgePairs();
        e.make(state);
        Object[] args = new Object[types.length];
        for (int i = 0; i < types.length; i++) args[i] = asType(types[i], numbers[i]);
        e.both(name, args);
        e.setSideBySide();
    }

    /** Numbers that do for each call, when none is at an edge. */
    private static int[] middle(String name, int parameters) {
        int[] n = new int[parameters];
        if (name.equals("window")) n[4] = 1;
        return n;
    }

    private static void allOf(Method call, int state) throws ReflectiveOperationException {
        int parameters = call.getParameterCount();
        Class<?>[] types = call.getParameterTypes();
        List<int[]> rows = new ArrayList<>();
        if (parameters == 0) rows.add(new int[0]);
        for (int p = 0; p < parameters; p++) {
            for (int q = p; q < parameters; q++) {
                for (int a : EDGES) {
                    for (int b : p == q ? new int[] {a} : EDGES) {
                        int[] n = middle(call.getName(), parameters);
                        n[p] = a;
                        n[q] = b;
                        rows.add(n);
                    }
                }
            }
        }
        for (int[] n : rows) go(call.getName(), types, n, state);
    }

    public static void main(String[] args) throws ReflectiveOperationException {
        for (Method call : NineWindows.class.getMethods()) {
            if (!isFace(call)) continue;
            for (int state = 0; state < 3; state++) allOf(call, state);
        }
        Check.end("EdgePairs");
    }
}
