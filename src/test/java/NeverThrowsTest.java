import java.lang.reflect.InvocationTargetException;
import java.lang.reflect.Method;
import java.lang.reflect.Modifier;
import java.util.ArrayList;
import java.util.Comparator;
import java.util.List;
import java.util.Random;

/** Calls of all kinds with any arguments in any state: none may throw, beyond the 512th call either. */
public final class NeverThrowsTest {
    private static final int RUNS = 400;
    private static final int CALLS = 900;
    private static final int[] FAR = {Integer.MIN_VALUE, Integer.MIN_VALUE + 1, Integer.MAX_VALUE, -1000000001,
        1000000000, -100000, -101, -100, -99, 100, 255, 256, 400, 401, 1000, 1001, 65536};

    public static void main(String[] args) throws IllegalAccessException {
        List<Method> methods = new ArrayList<>();
        for (Method m : OpenGates.class.getDeclaredMethods()) {
            if (Modifier.isPublic(m.getModifiers())) {
                methods.add(m);
            }
        }
        methods.sort(Comparator.comparing(Method::getName));
        for (int seed = 0; seed < RUNS; seed++) {
            run(new Random(seed), methods, seed);
        }
        Check.finish();
    }

    private static void run(Random random, List<Method> methods, int seed) throws IllegalAccessException {
        Check.about("run " + seed);
        OpenGates x = new OpenGates();
        for (int i = 0; i < CALLS; i++) {
            Method m = methods.get(random.nextInt(methods.size()));
            if (random.nextInt(20) == 0) {
                x.end(0);
                Texts.feed(x, new TextsByChance(random).text().substring(1));
                m = random.nextBoolean() ? named(methods, "law") : named(methods, "orders");
            }
            Object[] values = new Object[m.getParameterCount()];
            for (int k = 0; k < values.length; k++) {
                values[k] = argument(random, m.getName().equals("feed"));
            }
            try {
                m.invoke(x, values);
                Check.isTrue("it answers", true);
            } catch (InvocationTargetException e) {
                Check.isTrue(m.getName() + " threw " + e.getCause(), false);
            }
        }
    }

    private static Method named(List<Method> methods, String name) {
        return methods.stream().filter(m -> m.getName().equals(name)).findFirst().orElseThrow();
    }

    private static int argument(Random random, boolean bytes) {
        if (bytes) {
            String signs = "turns bars if[](;+-*/%<>=0123not or and men 1 at to \u0000\u00ff";
            int word = 0;
            for (int i = 0; i < 4; i++) {
                word = word << 8 | signs.charAt(random.nextInt(signs.length()));
            }
            return word;
        }
        int kind = random.nextInt(10);
        return kind == 0 ? FAR[random.nextInt(FAR.length)] : kind == 1 ? random.nextInt()
            : kind < 8 ? random.nextInt(8) - 1 : random.nextInt(120) - 10;
    }
}
