import java.lang.reflect.InvocationTargetException;
import java.lang.reflect.Method;
import java.util.ArrayList;
import java.util.Arrays;
import java.util.Comparator;
import java.util.List;
import java.util.Random;

/** No call throws, for any arguments in any state, and the same calls always give the same answers. */
final class AnyCallTest {
    private static final int[] EDGES = {Integer.MIN_VALUE, Integer.MIN_VALUE + 9, -65538, -100, -33, -7, -6, -5, -4, -3,
        -2, -1, 0, 1, 2, 3, 4, 5, 6, 7, 8, 9, 10, 11, 12, 13, 14, 20, 31, 32, 33, 34, 40, 41, 46, 59, 60, 61, 62, 63,
        64, 65, 66, 70, 97, 98, 99, 100, 104, 120, 126, 127, 9999, 10000, 65536, Integer.MAX_VALUE - 9,
        Integer.MAX_VALUE};

    public static void main(String[] args) throws Exception {
        List<Method> methods = new ArrayList<>();
        for (Method m : MorningBite.class.getDeclaredMethods()) {
            if (java.lang.reflect.Modifier.isPublic(m.getModifiers())) {
                methods.add(m);
            }
        }
        methods.sort(Comparator.comparing(Method::getName));
        Check.due("calls of the face", methods.size(), 27);
        edgesAlone(methods);
        for (int seed = 0; seed < 200; seed++) {
            Check.due("run " + seed + " twice", run(methods, seed), run(methods, seed));
        }
        Check.end();
    }

    private static long call(MorningBite x, Method m, Object[] arguments) throws Exception {
        try {
            return ((Number) m.invoke(x, arguments)).longValue();
        } catch (InvocationTargetException e) {
            Check.holds(m.getName() + Arrays.toString(arguments) + " throws " + e.getCause(), false);
            return 0;
        }
    }

    /** Each edge at each place of each call, the other arguments being fine, on an object where all is full. */
    private static void edgesAlone(List<Method> methods) throws Exception {
        for (Method m : methods) {
            for (int place = 0; place < m.getParameterCount(); place++) {
                for (int edge : EDGES) {
                    MorningBite x = full();
                    Object[] arguments = new Object[m.getParameterCount()];
                    Arrays.fill(arguments, 1);
                    arguments[place] = edge;
                    call(x, m, arguments);
                    Check.holds("bits", x.told(1) >= 0 && x.told(1) < 64);
                }
            }
        }
    }

    private static MorningBite full() {
        MorningBite x = new MorningBite();
        for (int one = 0; one < 6; one++) {
            x.one(one, 99 - one, 9, one);
        }
        for (int i = 0; i < 8; i++) {
            x.seen(i % 6, 99 - i % 6);
        }
        x.set(0, 99);
        x.set(1, 40);
        for (int i = 0; i < 60; i++) {
            x.say('.');
        }
        x.image(1);
        return x;
    }

    private static long run(List<Method> methods, int seed) throws Exception {
        Random random = new Random(seed);
        MorningBite x = seed % 2 == 0 ? new MorningBite() : full();
        long all = 0;
        // More calls than are promised: what they answer is free, but they do not throw.
        for (int i = 0; i < 2000; i++) {
            Method m = methods.get(random.nextInt(methods.size()));
            Object[] arguments = new Object[m.getParameterCount()];
            for (int k = 0; k < arguments.length; k++) {
                arguments[k] = random.nextInt(3) == 0 ? EDGES[random.nextInt(EDGES.length)] : random.nextInt(7);
            }
            if (m.getName().equals("say") && random.nextInt(4) > 0) {
                arguments[0] = (int) "ABCDEFbhx>!.".charAt(random.nextInt(12));
            }
            all = 31 * all + call(x, m, arguments);
        }
        return all;
    }
}
