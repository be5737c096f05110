import java.lang.management.ManagementFactory;
import java.lang.reflect.Array;
import java.lang.reflect.Field;
import java.lang.reflect.Modifier;
import java.util.ArrayDeque;
import java.util.Collections;
import java.util.Deque;
import java.util.IdentityHashMap;
import java.util.Set;

/** A new object is small beside the room of a run, and no call makes anything. */
public final class RoomUsed {
    private static final int MOST_OBJECTS = 1000;
    private static final int MOST_ELEMENTS = 100000;
    private static final int MOST_BYTES = 4096;

    private static int objects = 0;
    private static int elements = 0;
    private static long sum = 0;

    private static void count(Object root) throws IllegalAccessException {
        Set<Object> seen = Collections.newSetFromMap(new IdentityHashMap<>());
        Deque<Object> left = new ArrayDeque<>();
        left.add(root);
        while (!left.isEmpty()) {
            Object x = left.pop();
            if (seen.add(x)) {
                objects++;
                if (x.getClass().isArray()) {
                    countArray(x, left);
                } else {
                    countFields(x, left);
                }
            }
        }
    }

    private static void countArray(Object x, Deque<Object> left) {
        elements += Array.getLength(x);
        for (int i = 0; !x.getClass().getComponentType().isPrimitive() && i < Array.getLength(x); i++) {
            left.add(Array.get(x, i));
        }
    }

    private static void countFields(Object x, Deque<Object> left) throws IllegalAccessException {
        for (Field f : x.getClass().getDeclaredFields()) {
            if (!Modifier.isStatic(f.getModifiers())) {
                elements++;
                f.setAccessible(true);
                if (!f.getType().isPrimitive()) {
                    left.add(f.get(x));
                }
            }
        }
    }

    private static void allCalls(HeavyThings x, int i) {
        int s = i % 3;
        int o = (s + 1) % 3;
        sum += x.make(3 + s, 24) + x.stream(s, i, 100) + x.come(s, i % 1000, 9) + x.halving(s, 400 + i) + x.has(s, 10) + x.has(s, 6);
        sum += x.counter(s, 5, 4) + x.bucket(s, 2, 3) + x.bounds(s, 7, 4) + x.gone(s, 3, 1) + x.top(s, 24, 5) + x.sure(s, 5, false, 0);
        sum += x.sure(s, 5, true, -1) + x.open(s, 5) + x.heavy(s, 30, true, -1) + x.fewest(s, 500) + x.group(s, 3, 1, 3) + x.victim(s);
        sum += x.would(s, 99, 5, 2) + x.need(s, 99, 3) + x.merged(s, o, 5, 4) + x.risen(s, o, 5, true) + x.rose(s, o, -1);
        sum += x.alike(s, o, 10) + x.place(s, 5, true) + x.apart(s, o, true) + x.exact(s, -1) + x.clear(s) + x.lasts(s, x.top(s, 1, 0), 3);
        sum += x.trial(s, i, 100, 4) + x.off(s, 3) + x.off(s, 0) + x.truest(s, 30, 0) + x.judge(s, 30, 1) + x.node(s, 1, 0, 1);
        sum += x.own(s, 0, 0, 30) + x.leading(s, 3, 30, -1) + x.window(0, 24, 6) + x.flow(0, i % 1000, 5) + x.turn(0) + x.pane(0, 1, 0);
        sum += x.gather(3, 0, 2) + x.write(s) + x.octet(5) + x.feed(i, i, i) + (x.end(12) ? 1 : 0) + x.read(4) + x.fault(1) + x.keep(i % 2);
        sum += x.merge(s, o) + x.copy(5, s) + x.only(5, 2, 1) + x.resize(5, 3) + x.halve(5) + x.drop(5) + x.back(i % 2);
    }

    public static void main(String[] args) throws IllegalAccessException {
        HeavyThings x = new HeavyThings();
        count(x);
        System.out.println("a new object: " + objects + " objects and arrays, " + elements + " fields and elements");
        for (int s = 0; s < 3; s++) {
            x.make(s, 24);
        }
        com.sun.management.ThreadMXBean threads = (com.sun.management.ThreadMXBean) ManagementFactory.getThreadMXBean();
        threads.getCurrentThreadAllocatedBytes();
        allCalls(x, 0);
        long before = threads.getCurrentThreadAllocatedBytes();
        for (int i = 1; i <= 512; i++) {
            allCalls(x, i);
        }
        long bytes = threads.getCurrentThreadAllocatedBytes() - before;
        System.out.println("512 times all calls: " + bytes + " bytes made (" + sum + ")");
        if (objects > MOST_OBJECTS || elements > MOST_ELEMENTS || bytes > MOST_BYTES) {
            System.out.println("too much");
            System.exit(1);
        }
    }
}
