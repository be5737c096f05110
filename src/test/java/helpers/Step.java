import java.lang.reflect.InvocationTargetException;
import java.lang.reflect.Method;
import java.lang.reflect.Modifier;
import java.util.Set;
import java.util.StringJoiner;
import java.util.TreeMap;

/** One call with the answer that is due; true is 1, false is 0. */
final class Step {
    private static final Set<String> CHANGING = Set.of("make", "drop", "come", "stream", "halve", "halving", "resize", "merge", "copy",
        "only", "window", "flow", "turn", "gather", "write", "feed", "end", "read", "keep", "back");
    private static final TreeMap<String, Method> FACE = face();

    final String name;
    final int[] numbers;
    final int want;

    Step(String name, int[] numbers, int want) {
        if (!FACE.containsKey(name) || FACE.get(name).getParameterCount() != numbers.length) {
            throw new IllegalArgumentException("there is no call " + name + " with " + numbers.length + " numbers");
        }
        this.name = name;
        this.numbers = numbers;
        this.want = want;
    }

    private static TreeMap<String, Method> face() {
        TreeMap<String, Method> all = new TreeMap<>();
        for (Method m : HeavyThings.class.getDeclaredMethods()) {
            if (Modifier.isPublic(m.getModifiers())) {
                all.put(m.getName(), m);
            }
        }
        return all;
    }

    int answer(HeavyThings x) {
        Method call = FACE.get(name);
        Object[] given = new Object[numbers.length];
        for (int i = 0; i < given.length; i++) {
            given[i] = call.getParameterTypes()[i] == boolean.class ? (Object) (numbers[i] != 0) : (Object) numbers[i];
        }
        try {
            Object got = call.invoke(x, given);
            return got instanceof Boolean b ? (b ? 1 : 0) : (Integer) got;
        } catch (InvocationTargetException e) {
            throw new IllegalStateException(this + " threw " + e.getCause());
        } catch (IllegalAccessException e) {
            throw new IllegalStateException(e);
        }
    }

    /** Whether it is to change something: no question, and not refused. */
    boolean changes() {
        if (!CHANGING.contains(name) || want == -2 || want == -3) {
            return false;
        }
        boolean noFeed = name.equals("feed") && want == HeavyThings.NONE;
        boolean noEnd = name.equals("end") && want == 0;
        return !noFeed && !noEnd;
    }

    @Override
    public String toString() {
        StringJoiner told = new StringJoiner(", ", name + "(", ")");
        for (int number : numbers) {
            told.add(String.valueOf(number));
        }
        return told.toString();
    }
}
