import java.lang.reflect.InvocationTargetException;
import java.lang.reflect.Method;
import java.lang.reflect.Modifier;
import java.util.ArrayList;
import java.util.Arrays;
import java.util.Comparator;
import java.util.List;
import java.util.Random;

/** Any call with any numbers, in any state: none may throw. */
public final class NeverThrows {
    private static final int RUNS = 1000;
    private static final int CALLS = 512;
    private static final int[] EDGES = {Integer.MIN_VALUE, -2, -1, 0, 1, 2, 3, 5, 6, 9, 10, 23, 24, 25, 99, 100, 101, 999, 1000, 1001,
        9999, 10000, 1000000000, 1000000001, Integer.MAX_VALUE};

    private static final Random CHANCE = new Random(5);

    private static List<Method> face() {
        List<Method> all = new ArrayList<>();
        for (Method m : HeavyThings.class.getDeclaredMethods()) {
            if (Modifier.isPublic(m.getModifiers())) {
                all.add(m);
            }
        }
        // reflection promises no order, and each run of this test is to be the same
        all.sort(Comparator.comparing(Method::getName));
        return all;
    }

    private static Object anyOf(Class<?> type) {
        if (type == boolean.class) {
            return CHANCE.nextBoolean();
        }
        return CHANCE.nextInt(4) == 0 ? CHANCE.nextInt() : EDGES[CHANCE.nextInt(EDGES.length)];
    }

    private static HeavyThings begun() {
        HeavyThings x = new HeavyThings();
        for (int s = 0; s < 6; s++) {
            x.make(s, 1 + CHANCE.nextInt(24));
        }
        x.window(CHANCE.nextInt(2), 1 + CHANCE.nextInt(24), 1 + CHANCE.nextInt(6));
        return x;
    }

    public static void main(String[] args) throws IllegalAccessException {
        List<Method> face = face();
        for (int run = 0; run < RUNS; run++) {
            HeavyThings x = begun();
            for (int call = 0; call < CALLS; call++) {
                Method m = face.get(CHANCE.nextInt(face.size()));
                Object[] numbers = Arrays.stream(m.getParameterTypes()).map(NeverThrows::anyOf).toArray();
                try {
                    m.invoke(x, numbers);
                } catch (InvocationTargetException e) {
                    System.out.println("run " + run + ": " + m.getName() + Arrays.toString(numbers) + " threw " + e.getCause());
                    System.exit(1);
                }
            }
        }
        System.out.println("no call threw in " + RUNS + " runs");
    }
}
