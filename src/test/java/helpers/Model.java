import java.util.ArrayList;
import java.util.Arrays;
import java.util.Comparator;
import java.util.LinkedHashSet;
import java.util.List;
import java.util.Set;
import java.util.TreeMap;
import java.util.TreeSet;
import java.util.function.IntPredicate;

/**
 * The document told once more, slowly: every answer is worked out from the Terms by trying all
 * THINGS, all weights or all f, with other means than the class has (stamps instead of places,
 * sorting instead of ranks, copies instead of sums).
 */
public final class Model {
    static final int NONE = -1;
    static final int MOST = 1000000000;

    static final class Counter {
        int thing;
        int count;
        int low;
        long stamp;

        Counter(int thing, int count, int low, long stamp) {
            this.thing = thing;
            this.count = count;
            this.low = low;
            this.stamp = stamp;
        }
    }

    static final class Sum {
        int room;
        int total;
        int absent;
        int halving;
        int halved;
        long clock;
        TreeMap<Integer, Counter> counters = new TreeMap<>();
        TreeMap<Integer, Integer> truth = new TreeMap<>();
        List<int[]> gone = new ArrayList<>();

        Sum(int room) {
            this.room = room;
        }

        Sum twin() {
            Sum t = new Sum(room);
            t.total = total;
            t.absent = absent;
            t.halving = halving;
            t.halved = halved;
            t.clock = clock;
            for (Counter c : counters.values()) {
                t.counters.put(c.thing, new Counter(c.thing, c.count, c.low, c.stamp));
            }
            t.truth.putAll(truth);
            t.gone.addAll(gone);
            return t;
        }

        List<Counter> order() {
            List<Counter> row = new ArrayList<>(counters.values());
            row.sort(Comparator.comparingInt((Counter c) -> c.count).thenComparingLong(c -> c.stamp));
            return row;
        }

        List<Counter> fall() {
            List<Counter> row = new ArrayList<>(counters.values());
            row.sort(Comparator.comparingInt((Counter c) -> -c.count).thenComparingInt(c -> c.thing));
            return row;
        }

        int high(int t) {
            return counters.containsKey(t) ? counters.get(t).count : absent;
        }

        int low(int t) {
            return counters.containsKey(t) ? counters.get(t).low : 0;
        }

        int truth(int t) {
            return truth.getOrDefault(t, 0);
        }

        int come(int t, int w) {
            total += w;
            truth.merge(t, w, Integer::sum);
            int how;
            Counter c = counters.get(t);
            if (c != null) {
                c.count += w;
                c.low += w;
                c.stamp = ++clock;
                how = 0;
            } else {
                how = 1;
                if (counters.size() >= room) {
                    Counter first = order().get(0);
                    counters.remove(first.thing);
                    gone.add(new int[] {first.thing, first.count, t});
                    absent = Math.max(absent, first.count);
                    how = 2;
                }
                counters.put(t, new Counter(t, absent + w, w, ++clock));
            }
            if (halving != 0 && total >= halving) {
                halve();
            }
            return how;
        }

        int halve() {
            total /= 2;
            absent /= 2;
            halved++;
            for (int t : new ArrayList<>(truth.keySet())) {
                truth.put(t, truth.get(t) / 2);
            }
            int before = counters.size();
            for (Counter c : order()) {
                c.count /= 2;
                c.low /= 2;
                c.stamp = ++clock;
                if (c.count == 0) {
                    counters.remove(c.thing);
                }
            }
            return before - counters.size();
        }

        int mergeWith(Sum o) {
            Set<Integer> things = new TreeSet<>(counters.keySet());
            things.addAll(o.counters.keySet());
            List<Counter> all = new ArrayList<>();
            for (int t : things) {
                all.add(new Counter(t, high(t) + o.high(t), low(t) + o.low(t), 0));
            }
            all.sort(Comparator.comparingInt((Counter c) -> -c.count).thenComparingInt(c -> c.thing));
            total += o.total;
            absent += o.absent;
            o.truth.forEach((t, n) -> truth.merge(t, n, Integer::sum));
            counters.clear();
            int out = 0;
            for (int i = 0; i < all.size(); i++) {
                Counter c = all.get(i);
                if (i < room) {
                    // among like COUNTS the lesser THINGS stand ahead, and all later ones behind them
                    c.stamp = ++clock;
                    counters.put(c.thing, c);
                } else {
                    out++;
                    absent = Math.max(absent, c.count);
                }
            }
            return out;
        }

        int shrink(int newRoom) {
            room = newRoom;
            int out = 0;
            while (counters.size() > room) {
                out += remove(order().get(0));
            }
            return out;
        }

        private int remove(Counter c) {
            counters.remove(c.thing);
            absent = Math.max(absent, c.count);
            return 1;
        }

        int only(int m, int r) {
            int out = 0;
            for (Counter c : new ArrayList<>(counters.values())) {
                if (c.thing % m != r) {
                    out += remove(c);
                }
            }
            return out;
        }

        int pour(int seed, int n) {
            Draw d = new Draw(seed);
            int went = 0;
            for (int i = 0; i < n; i++) {
                int b = d.draw(40) + 1;
                int t = d.draw(b);
                int w = d.draw(5) + 1;
                went += come(t, w) == 2 ? 1 : 0;
            }
            return went;
        }

        int others(int thing, IntPredicate p) {
            int n = 0;
            for (int t = 0; t < 1000; t++) {
                n += t != thing && p.test(t) ? 1 : 0;
            }
            return n;
        }

        boolean certain(int t, int k) {
            return counters.containsKey(t) && others(t, o -> high(o) >= low(t)) < k;
        }

        boolean possible(int t, int k) {
            return others(t, o -> low(o) > high(t)) < k;
        }

        boolean isShare(int x, int f) {
            return x != 0 && 1000L * x >= (long) f * total;
        }

        List<Integer> truest() {
            List<Integer> row = new ArrayList<>();
            for (int t = 0; t < 1000; t++) {
                if (truth(t) > 0) {
                    row.add(t);
                }
            }
            row.sort(Comparator.comparingInt((Integer t) -> -truth(t)).thenComparingInt(t -> t));
            return row;
        }

        List<List<Counter>> buckets() {
            TreeMap<Integer, List<Counter>> by = new TreeMap<>();
            for (Counter c : order()) {
                by.computeIfAbsent(c.count, x -> new ArrayList<>()).add(c);
            }
            return new ArrayList<>(by.values());
        }

        int own(int level, int node, int f) {
            if (level == 3) {
                return low(node);
            }
            int sum = 0;
            for (int b = 10 * node; b < 10 * node + 10; b++) {
                if (!leads(level + 1, b, f)) {
                    sum += own(level + 1, b, f);
                }
            }
            return sum;
        }

        boolean leads(int level, int node, int f) {
            int o = own(level, node, f);
            return o > 0 && 1000L * o >= (long) f * total;
        }

        List<Integer> bytes() {
            List<Integer> row = new ArrayList<>();
            number(row, room, 1);
            number(row, counters.size(), 1);
            number(row, total, 4);
            number(row, absent, 4);
            number(row, halving, 4);
            for (Counter c : order()) {
                number(row, c.thing, 2);
                number(row, c.count, 4);
                number(row, c.low, 4);
            }
            row.add(check(row, row.size()));
            return row;
        }
    }

    static final class Draw {
        long x;

        Draw(int seed) {
            x = seed;
        }

        int draw(int m) {
            x = Math.floorMod(1103515245L * x + 12345L, 1L << 31);
            return (int) (Math.floorDiv(x, 64L) % m);
        }
    }

    static void number(List<Integer> row, int n, int bytes) {
        for (int i = bytes - 1; i >= 0; i--) {
            row.add((n >> (8 * i)) & 255);
        }
    }

    static int check(List<Integer> row, int n) {
        int c = 7;
        for (int i = 0; i < n; i++) {
            c = (3 * c + row.get(i)) % 251;
        }
        return c;
    }

    private Sum[] sums = new Sum[6];
    private final Sum[][] kept = new Sum[2][];
    private final List<List<Sum>> windows = new ArrayList<>(Arrays.asList(null, null));
    private final int[] windowRoom = new int[2];
    private final int[] windowMost = new int[2];
    private List<Integer> written = new ArrayList<>();
    private List<Integer> tape = new ArrayList<>();
    private int fault = 0;
    private int faultPlace = NONE;

    private Sum at(int s) {
        return s < 0 || s > 5 ? null : sums[s];
    }

    private int there() {
        return (int) Arrays.stream(sums).filter(x -> x != null).count();
    }

    private static boolean in(int x, int from, int to) {
        return x >= from && x <= to;
    }

    private static int pick(List<Integer> row, int i) {
        return i == NONE ? row.size() : i >= 0 && i < row.size() ? row.get(i) : NONE;
    }

    private static int cap(long x) {
        return x > MOST ? MOST : (int) x;
    }

    public int make(int s, int room) {
        if (!in(s, 0, 5) || !in(room, 1, 24)) return -2;
        int was = sums[s] == null ? 0 : 1;
        sums[s] = new Sum(room);
        return was;
    }

    public int drop(int s) {
        if (at(s) == null) return -2;
        sums[s] = null;
        return there();
    }

    public int has(int s, int what) {
        Sum x = at(s);
        if (x == null) return NONE;
        switch (what) {
            case 0: return x.room;
            case 1: return x.counters.size();
            case 2: return x.total;
            case 3: return x.absent;
            case 4: return x.halving;
            case 5: return (int) x.counters.values().stream().mapToInt(c -> c.count).distinct().count();
            case 6: return (int) x.truth.values().stream().filter(t -> t > 0).count();
            case 7: return x.gone.size();
            case 8: return x.halved;
            case 9: return x.counters.values().stream().mapToInt(c -> c.low).sum();
            case 10: return cap(x.counters.values().stream().mapToLong(c -> c.count).sum());
            default: return NONE;
        }
    }

    public int come(int s, int thing, int weight) {
        Sum x = at(s);
        if (x == null || !in(thing, 0, 999) || !in(weight, 1, 9999)) return -2;
        if (x.total + weight > MOST) return -3;
        return x.come(thing, weight);
    }

    public int stream(int s, int seed, int n) {
        Sum x = at(s);
        if (x == null || seed < 0 || !in(n, 1, 100)) return -2;
        if (x.total + 5 * n > MOST) return -3;
        return x.pour(seed, n);
    }

    public int halve(int s) {
        return at(s) == null ? -2 : at(s).halve();
    }

    public int halving(int s, int h) {
        if (at(s) == null || !in(h, 0, MOST)) return -2;
        int was = at(s).halving;
        at(s).halving = h;
        return was;
    }

    public int resize(int s, int room) {
        if (at(s) == null || !in(room, 1, 24)) return -2;
        return at(s).shrink(room);
    }

    public int merge(int s, int other) {
        if (at(s) == null || at(other) == null || s == other) return -2;
        if ((long) at(s).total + at(other).total > MOST) return -3;
        return at(s).mergeWith(at(other));
    }

    public int copy(int s, int other) {
        if (!in(s, 0, 5) || at(other) == null || s == other) return -2;
        sums[s] = at(other).twin();
        return sums[s].counters.size();
    }

    public int counter(int s, int k, int what) {
        Sum x = at(s);
        if (x == null || !in(k, 0, x.counters.size() - 1)) return NONE;
        Counter c = x.order().get(k);
        switch (what) {
            case 0: return c.thing;
            case 1: return c.count;
            case 2: return c.low;
            case 3: return c.count - c.low;
            case 4:
                for (int b = 0; b < x.buckets().size(); b++) {
                    if (x.buckets().get(b).get(0).count == c.count) return b;
                }
                return -99;
            default: return NONE;
        }
    }

    public int bucket(int s, int k, int what) {
        Sum x = at(s);
        if (x == null || !in(k, 0, x.buckets().size() - 1)) return NONE;
        List<Counter> b = x.buckets().get(k);
        int[] answers = {b.get(0).count, b.size(), b.get(0).thing, b.get(b.size() - 1).thing};
        return in(what, 0, 3) ? answers[what] : NONE;
    }

    public int bounds(int s, int thing, int what) {
        Sum x = at(s);
        if (x == null || !in(thing, 0, 999)) return NONE;
        switch (what) {
            case 0: return x.high(thing);
            case 1: return x.low(thing);
            case 2: return x.counters.containsKey(thing) ? 1 : 0;
            case 3: return x.truth(thing);
            case 4: return things(x.fall()).indexOf(thing);
            default: return NONE;
        }
    }

    private static List<Integer> things(List<Counter> row) {
        List<Integer> t = new ArrayList<>();
        for (Counter c : row) t.add(c.thing);
        return t;
    }

    public int gone(int s, int k, int what) {
        Sum x = at(s);
        if (x == null || !in(k, 0, 19) || k >= x.gone.size() || !in(what, 0, 2)) return NONE;
        return x.gone.get(x.gone.size() - 1 - k)[what];
    }

    private static List<Integer> top(Sum x, int k) {
        List<Integer> fall = things(x.fall());
        return fall.subList(0, Math.min(k, fall.size()));
    }

    public int top(int s, int k, int i) {
        if (at(s) == null || !in(k, 1, 24)) return NONE;
        return pick(top(at(s), k), i);
    }

    public int sure(int s, int k, boolean possible, int i) {
        Sum x = at(s);
        if (x == null || !in(k, 1, 24)) return NONE;
        List<Integer> row = new ArrayList<>();
        for (int t : things(x.fall())) {
            if (possible ? x.possible(t, k) : x.certain(t, k)) row.add(t);
        }
        return pick(row, i);
    }

    public int open(int s, int k) {
        Sum x = at(s);
        if (x == null || !in(k, 1, 24)) return NONE;
        return x.others(-5, t -> x.low(t) > x.absent) < k ? 1 : 0;
    }

    private static List<Integer> heavy(Sum x, int f, boolean possible) {
        List<Integer> row = new ArrayList<>();
        for (Counter c : x.fall()) {
            if (x.isShare(possible ? c.count : c.low, f)) row.add(c.thing);
        }
        return row;
    }

    public int heavy(int s, int f, boolean possible, int i) {
        if (at(s) == null || !in(f, 1, 1000)) return NONE;
        return pick(heavy(at(s), f, possible), i);
    }

    public int fewest(int s, int f) {
        Sum x = at(s);
        if (x == null || !in(f, 0, 1000)) return NONE;
        for (int n = 0; n <= x.counters.size(); n++) {
            long lows = x.fall().subList(0, n).stream().mapToLong(c -> c.low).sum();
            if (1000 * lows >= (long) f * x.total) return n;
        }
        return NONE;
    }

    public int group(int s, int m, int r, int what) {
        Sum x = at(s);
        if (x == null || !in(m, 1, 100) || !in(r, 0, m - 1) || !in(what, 0, 3)) return NONE;
        long[] sum = new long[4];
        for (int t = 0; t < 1000; t++) {
            if (t % m != r) continue;
            sum[3] += x.truth(t);
            if (x.counters.containsKey(t)) {
                sum[0]++;
                sum[1] += x.high(t);
                sum[2] += x.low(t);
            }
        }
        return cap(sum[what]);
    }

    public int victim(int s) {
        Sum x = at(s);
        if (x == null) return -2;
        return x.counters.size() < x.room ? NONE : x.order().get(0).thing;
    }

    public int would(int s, int thing, int weight, int what) {
        Sum x = at(s);
        if (x == null || !in(thing, 0, 999) || !in(weight, 1, 9999) || !in(what, 0, 4)) return -2;
        if (x.total + weight > MOST) return -3;
        Sum y = x.twin();
        y.come(thing, weight);
        if (what == 3) return y.absent;
        if (what == 4) return y.total;
        if (!y.counters.containsKey(thing)) return NONE;
        if (what == 2) return things(y.fall()).indexOf(thing);
        return what == 0 ? y.counters.get(thing).count : y.counters.get(thing).low;
    }

    private static boolean certainAfter(Sum x, int thing, int weight, int k) {
        Sum y = x.twin();
        y.halving = 0;
        y.come(thing, weight);
        return y.certain(thing, k);
    }

    public int need(int s, int thing, int k) {
        Sum x = at(s);
        if (x == null || !in(thing, 0, 999) || !in(k, 1, 24)) return -2;
        if (x.certain(thing, k)) return 0;
        if (!certainAfter(x, thing, 1000000, k)) return NONE;
        int least = 1;
        int most = 1000000;
        while (least < most) {
            int mid = (least + most) / 2;
            if (certainAfter(x, thing, mid, k)) most = mid;
            else least = mid + 1;
        }
        return least;
    }

    public int merged(int s, int other, int thing, int what) {
        if (at(s) == null || at(other) == null || s == other || !in(thing, 0, 999) || !in(what, 0, 4)) return -2;
        if ((long) at(s).total + at(other).total > MOST) return -3;
        Sum y = at(s).twin();
        int out = y.mergeWith(at(other));
        int[] answers = {y.high(thing), y.low(thing), y.counters.containsKey(thing) ? 1 : 0, y.absent, out};
        return answers[what];
    }

    public int risen(int s, int other, int thing, boolean greatest) {
        Sum x = at(s);
        Sum y = at(other);
        if (x == null || y == null || !in(thing, 0, 999)) return -2000000000;
        return greatest ? y.high(thing) - x.low(thing) : y.low(thing) - x.high(thing);
    }

    public int rose(int s, int other, int i) {
        Sum x = at(s);
        Sum y = at(other);
        if (x == null || y == null) return NONE;
        List<Integer> row = new ArrayList<>();
        for (int t = 0; t < 1000; t++) {
            if (y.low(t) - x.high(t) > 0) row.add(t);
        }
        row.sort(Comparator.comparingInt((Integer t) -> x.high(t) - y.low(t)).thenComparingInt(t -> t));
        return pick(row, i);
    }

    public int alike(int s, int other, int k) {
        if (at(s) == null || at(other) == null || !in(k, 1, 24)) return NONE;
        Set<Integer> both = new LinkedHashSet<>(top(at(s), k));
        both.retainAll(top(at(other), k));
        return both.size();
    }

    public int place(int s, int thing, boolean worst) {
        Sum x = at(s);
        if (x == null || !in(thing, 0, 999)) return NONE;
        return x.others(thing, t -> worst ? x.high(t) > x.low(thing) : x.low(t) > x.high(thing));
    }

    public int apart(int s, int other, boolean greatest) {
        Sum x = at(s);
        Sum y = at(other);
        if (x == null || y == null) return NONE;
        Set<Integer> things = new TreeSet<>(x.counters.keySet());
        things.addAll(y.counters.keySet());
        long sum = 0;
        for (int t : things) {
            long a = x.low(t);
            long b = x.high(t);
            long c = y.low(t);
            long d = y.high(t);
            if (greatest) {
                sum += Math.max(Math.max(Math.abs(a - c), Math.abs(a - d)), Math.max(Math.abs(b - c), Math.abs(b - d)));
            } else if (b < c) {
                sum += c - b;
            } else if (d < a) {
                sum += a - d;
            }
        }
        return cap(sum);
    }

    public int exact(int s, int i) {
        if (at(s) == null) return NONE;
        List<Integer> row = new ArrayList<>();
        for (Counter c : at(s).order()) {
            if (c.count - c.low == 0) row.add(c.thing);
        }
        return pick(row, i);
    }

    public int clear(int s) {
        Sum x = at(s);
        if (x == null) return NONE;
        int least = NONE;
        for (int f = 1000; f >= 1 && heavy(x, f, true).equals(heavy(x, f, false)); f--) {
            least = f;
        }
        return least;
    }

    public int lasts(int s, int thing, int weight) {
        Sum x = at(s);
        if (x == null || !in(thing, 0, 999) || !in(weight, 1, 9999)) return -2;
        if (!x.counters.containsKey(thing)) return 0;
        Sum y = x.twin();
        y.halving = 0;
        for (int n = 1; n <= 100; n++) {
            int t = 0;
            while (y.counters.containsKey(t) || t == thing) t++;
            y.come(t, weight);
            if (!y.counters.containsKey(thing)) return n;
        }
        return NONE;
    }

    public int trial(int s, int seed, int n, int what) {
        Sum x = at(s);
        if (x == null || seed < 0 || !in(n, 1, 100) || !in(what, 0, 4)) return -2;
        if (x.total + 5 * n > MOST) return -3;
        Sum y = x.twin();
        int went = y.pour(seed, n);
        Set<Integer> left = new TreeSet<>(x.counters.keySet());
        left.retainAll(y.counters.keySet());
        int[] answers = {went, y.counters.size(), y.absent, y.total, left.size()};
        return answers[what];
    }

    public int only(int s, int m, int r) {
        if (at(s) == null || !in(m, 1, 100) || !in(r, 0, m - 1)) return -2;
        return at(s).only(m, r);
    }

    public int off(int s, int what) {
        Sum x = at(s);
        if (x == null || !in(what, 0, 3)) return NONE;
        int[] answers = {Integer.MIN_VALUE, Integer.MIN_VALUE, 0, 0};
        for (int t = 0; t < 1000; t++) {
            answers[0] = Math.max(answers[0], x.high(t) - x.truth(t));
            answers[1] = Math.max(answers[1], x.truth(t) - x.low(t));
            answers[2] += x.high(t) == x.truth(t) && x.low(t) == x.truth(t) ? 1 : 0;
        }
        List<Integer> truest = x.truest();
        for (int i = 0; i < truest.size() && i < x.counters.size(); i++) {
            answers[3] += x.counters.containsKey(truest.get(i)) ? 0 : 1;
        }
        return answers[what];
    }

    public int truest(int s, int k, int what) {
        Sum x = at(s);
        if (x == null || k < 0 || k >= x.truest().size() || !in(what, 0, 1)) return NONE;
        int t = x.truest().get(k);
        return what == 0 ? t : x.truth(t);
    }

    public int judge(int s, int f, int what) {
        Sum x = at(s);
        if (x == null || !in(f, 1, 1000) || !in(what, 0, 2)) return NONE;
        int[] answers = new int[3];
        for (int t = 0; t < 1000; t++) {
            boolean truly = x.isShare(x.truth(t), f);
            answers[0] += truly ? 1 : 0;
            answers[1] += truly && !x.isShare(x.high(t), f) ? 1 : 0;
            answers[2] += x.isShare(x.low(t), f) && !truly ? 1 : 0;
        }
        return answers[what];
    }

    private static boolean isNode(int level, int node) {
        return in(level, 0, 3) && in(node, 0, new int[] {0, 9, 99, 999}[level]);
    }

    private static int nodeOf(int thing, int level) {
        return level == 0 ? 0 : level == 1 ? thing / 100 : level == 2 ? thing / 10 : thing;
    }

    public int node(int s, int level, int node, int what) {
        Sum x = at(s);
        if (x == null || !isNode(level, node) || !in(what, 0, 2)) return NONE;
        int[] answers = {0, x.total, 0};
        for (int t = 0; t < 1000; t++) {
            if (nodeOf(t, level) == node) {
                answers[0] += x.low(t);
                answers[2] += x.counters.containsKey(t) ? 1 : 0;
            } else {
                answers[1] -= x.low(t);
            }
        }
        return answers[what];
    }

    public int own(int s, int level, int node, int f) {
        if (at(s) == null || !isNode(level, node) || !in(f, 1, 1000)) return NONE;
        return at(s).own(level, node, f);
    }

    public int leading(int s, int level, int f, int i) {
        if (at(s) == null || !in(level, 0, 3) || !in(f, 1, 1000)) return NONE;
        List<Integer> row = new ArrayList<>();
        for (int n = 0; isNode(level, n); n++) {
            if (at(s).leads(level, n, f)) row.add(n);
        }
        return pick(row, i);
    }

    private List<Sum> win(int v) {
        return in(v, 0, 1) ? windows.get(v) : null;
    }

    public int window(int v, int room, int panes) {
        if (!in(v, 0, 1) || !in(room, 1, 24) || !in(panes, 1, 6)) return -2;
        int was = win(v) == null ? 0 : 1;
        windows.set(v, new ArrayList<>());
        windows.get(v).add(new Sum(room));
        windowRoom[v] = room;
        windowMost[v] = panes;
        return was;
    }

    public int flow(int v, int thing, int weight) {
        if (win(v) == null || !in(thing, 0, 999) || !in(weight, 1, 9999)) return -2;
        Sum last = win(v).get(win(v).size() - 1);
        if (last.total + weight > MOST) return -3;
        return last.come(thing, weight);
    }

    public int turn(int v) {
        if (win(v) == null) return -2;
        if (win(v).size() == windowMost[v]) win(v).remove(0);
        win(v).add(new Sum(windowRoom[v]));
        return win(v).size();
    }

    public int pane(int v, int k, int what) {
        if (win(v) == null || !in(what, 0, 3)) return NONE;
        if (what == 3) return win(v).size();
        if (!in(k, 0, win(v).size() - 1)) return NONE;
        Sum x = win(v).get(win(v).size() - 1 - k);
        return what == 0 ? x.total : what == 1 ? x.counters.size() : x.absent;
    }

    public int gather(int s, int v, int n) {
        if (!in(s, 0, 5) || win(v) == null || !in(n, 1, win(v).size())) return -2;
        List<Sum> row = win(v);
        Sum y = row.get(row.size() - 1).twin();
        y.gone.clear();
        for (int k = 1; k < n; k++) {
            y.mergeWith(row.get(row.size() - 1 - k));
        }
        sums[s] = y;
        return y.counters.size();
    }

    public int write(int s) {
        if (at(s) == null) return -2;
        written = at(s).bytes();
        return written.size();
    }

    public int octet(int i) {
        return in(i, 0, written.size() - 1) ? written.get(i) : NONE;
    }

    public int feed(int a, int b, int c) {
        if (tape.size() + 12 > 300) return NONE;
        number(tape, a, 4);
        number(tape, b, 4);
        number(tape, c, 4);
        return tape.size();
    }

    public boolean end(int n) {
        if (!in(n, 0, tape.size())) return false;
        tape = new ArrayList<>(tape.subList(0, n));
        return true;
    }

    private static long big(List<Integer> row, int at, int bytes) {
        long n = 0;
        for (int i = 0; i < bytes; i++) {
            n = 256 * n + row.get(at + i);
        }
        return n;
    }

    /** {0, NONE} or {FAULT, place}; four bytes are read without a sign, so what is below 0 is far above. */
    private static int[] faultOf(List<Integer> row) {
        int n = row.size();
        if (n < 15) return new int[] {1, n};
        int room = row.get(0);
        int counters = row.get(1);
        if (n != 15 + 10 * counters) return new int[] {1, n};
        if (room < 1 || room > 24) return new int[] {2, 0};
        if (counters > room) return new int[] {3, 1};
        long total = big(row, 2, 4);
        if (total > MOST) return new int[] {4, 2};
        if (big(row, 6, 4) > total) return new int[] {4, 6};
        if (big(row, 10, 4) > MOST) return new int[] {4, 10};
        Set<Long> seen = new TreeSet<>();
        long before = 0;
        long lows = 0;
        for (int at = 14; at < n - 1; at += 10) {
            long thing = big(row, at, 2);
            long count = big(row, at + 2, 4);
            long low = big(row, at + 6, 4);
            lows += low;
            if (thing > 999 || !seen.add(thing)) return new int[] {5, at};
            if (count < before || count == 0 || count > total) return new int[] {6, at};
            if (low > count) return new int[] {7, at};
            if (lows > total) return new int[] {8, at};
            before = count;
        }
        if (row.get(n - 1) != check(row, n - 1)) return new int[] {9, n - 1};
        return new int[] {0, NONE};
    }

    public int read(int s) {
        if (!in(s, 0, 5)) return -2;
        List<Integer> row = tape;
        tape = new ArrayList<>();
        int[] f = faultOf(row);
        fault = f[0];
        faultPlace = f[1];
        if (fault != 0) return NONE;
        Sum x = new Sum(row.get(0));
        x.total = (int) big(row, 2, 4);
        x.absent = (int) big(row, 6, 4);
        x.halving = (int) big(row, 10, 4);
        for (int at = 14; at < row.size() - 1; at += 10) {
            int thing = (int) big(row, at, 2);
            int low = (int) big(row, at + 6, 4);
            x.counters.put(thing, new Counter(thing, (int) big(row, at + 2, 4), low, ++x.clock));
            x.truth.put(thing, low);
        }
        sums[s] = x;
        return x.counters.size();
    }

    public int fault(int what) {
        return what == 0 ? fault : what == 1 ? faultPlace : NONE;
    }

    private static Sum[] twins(Sum[] row) {
        Sum[] t = new Sum[6];
        for (int s = 0; s < 6; s++) {
            t[s] = row[s] == null ? null : row[s].twin();
        }
        return t;
    }

    public int keep(int k) {
        if (!in(k, 0, 1)) return -2;
        kept[k] = twins(sums);
        return there();
    }

    public int back(int k) {
        if (!in(k, 0, 1)) return -2;
        if (kept[k] == null) return -3;
        sums = twins(kept[k]);
        return there();
    }
}
