import java.lang.reflect.InvocationTargetException;
import java.lang.reflect.Method;
import java.lang.reflect.Modifier;
import java.util.ArrayList;
import java.util.Comparator;
import java.util.List;
import java.util.Random;

/** Every method with numbers from all edges, drawn from fixed seeds: none throws, all answer as PlainHill. */
public final class EdgesTest {
    private static final Due D = new Due();
    private static final int[] EDGES = {Integer.MIN_VALUE, Integer.MIN_VALUE + 1, -1000, -100, -2, -1, 0, 0, 0, 1, 1, 2, 2,
        3, 3, 4, 5, 6, 7, 8, 9, 10, 11, 12, 13, 19, 20, 21, 23, 24, 30, 31, 40, 59, 60, 61, 63, 64, 98, 99, 100, 101, 120,
        123, 124, 199, 200, 223, 300, 323, 324, 599, 600, 601, 999, 1000, 1918, 1919, 1920, 2000, 20000, 99999, 100000,
        999999, 1000000, 1030300, 1030301, 1 << 20, 1 << 30, Integer.MAX_VALUE - 2, Integer.MAX_VALUE};

    private static final Random RANDOM = new Random(7);

    public static void main(String[] args) throws ReflectiveOperationException {
        List<Method> methods = new ArrayList<>();
        for (Method m : OverHill.class.getDeclaredMethods()) {
            if (Modifier.isPublic(m.getModifiers())) {
                methods.add(m);
            }
        }
        // What Java lists in any order must come in one order, for the seed to tell the same run each time.
        methods.sort(Comparator.comparing(Method::getName));
        for (int run = 0; run < 400; run++) {
            OverHill x = new OverHill();
            PlainHill y = new PlainHill();
            int valid = run % 4 == 0 ? 0 : 40 * (run % 4);
            for (int call = 0; call < 512; call++) {
                Method m = methods.get(RANDOM.nextInt(methods.size()));
                if (call < valid) {
                    build(x, y);
                } else {
                    ask(m, x, y);
                }
            }
        }
        D.end();
    }

    /** One more of what there is, so that later calls have something to be asked about. */
    private static void build(OverHill x, PlainHill y) {
        int a = RANDOM.nextInt(12);
        int b = RANDOM.nextInt(12);
        int l = RANDOM.nextInt(20);
        switch (RANDOM.nextInt(9)) {
            case 0: D.due("point", x.point(20 * a), y.point(20 * a)); break;
            case 1: D.due("way", x.way(a % 4, b % 4, a + 1), y.way(a % 4, b % 4, a + 1)); break;
            case 2: D.due("engine", x.engine(a, 1 + b % 9), y.engine(a, 1 + b % 9)); break;
            case 3: D.due("laying", x.laying(a % 6, b % 4), y.laying(a % 6, b % 4)); break;
            case 4: D.due("row", x.row(a % 6, b % 5, l), y.row(a % 6, b % 5, l)); break;
            case 5: D.due("load", x.load(l + 1), y.load(l + 1)); break;
            case 6: D.due("thing", x.thing(l + 1, 7919 * a), y.thing(l + 1, 7919 * a)); break;
            default: D.due("part", x.part(l, a % 3, b % 8, a % 2), y.part(l, a % 3, b % 8, a % 2)); break;
        }
    }

    private static void ask(Method m, OverHill x, PlainHill y) throws ReflectiveOperationException {
        Class<?>[] types = m.getParameterTypes();
        Object[] told = new Object[types.length];
        StringBuilder call = new StringBuilder(m.getName());
        for (int i = 0; i < told.length; i++) {
            int edge = EDGES[RANDOM.nextInt(EDGES.length)];
            if (RANDOM.nextBoolean()) {
                edge = RANDOM.nextInt(4);
            }
            if (types[i] == long.class) {
                told[i] = RANDOM.nextBoolean() ? (long) edge : RANDOM.nextLong();
            } else {
                told[i] = edge;
            }
            call.append(' ').append(told[i]);
        }
        Method plain = PlainHill.class.getDeclaredMethod(m.getName(), types);
        try {
            D.due(call.toString(), ((Number) m.invoke(x, told)).longValue(), ((Number) plain.invoke(y, told)).longValue());
        } catch (InvocationTargetException e) {
            D.holds(call + " threw " + e.getCause(), false);
        }
    }
}
