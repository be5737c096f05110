/** Each promise of the document by itself: ordinary inputs, the edges it names, and wrong inputs. */
public final class Promises {
    private static final int NONE = HeavyThings.NONE;
    private static final int MOST = 1000000000;
    private static final int[] FAR = {Integer.MIN_VALUE, -2, -1, 6, 7, Integer.MAX_VALUE};

    private static int wrong = 0;
    private static int asked = 0;

    private static void due(int promise, String call, int got, int want) {
        asked++;
        if (got != want) {
            wrong++;
            System.out.println("promise " + promise + ": " + call + " answered " + got + ", due is " + want);
        }
    }

    private static void due(int promise, String call, boolean got, boolean want) {
        due(promise, call, got ? 1 : 0, want ? 1 : 0);
    }

    // ---- what the tests begin with

    /** ORDER 4: 4 (LOW 1), 1: 5 (5), 2: 5 (2); ABSENT 3, TOTAL 14, TRUTHS 1: 5, 2: 5, 3: 3, 4: 1; two have GONE. */
    private static HeavyThings filled() {
        HeavyThings x = new HeavyThings();
        x.make(0, 3);
        x.come(0, 1, 5);
        x.come(0, 2, 3);
        x.come(0, 3, 3);
        x.come(0, 4, 1);
        x.come(0, 2, 2);
        return x;
    }

    private static int at;
    private static final int[] OCTETS = new int[300];

    private static void octets(int number, int n) {
        for (int i = n - 1; i >= 0; i--) {
            OCTETS[at++] = (number >>> (8 * i)) & 255;
        }
    }

    /** Lays a row of bytes: ROOM, TOTAL, ABSENT, HALVING, then THING, COUNT, LOW of each COUNTER. */
    private static void lay(int room, int total, int absent, int halving, int... counters) {
        at = 0;
        octets(room, 1);
        octets(counters.length / 3, 1);
        octets(total, 4);
        octets(absent, 4);
        octets(halving, 4);
        for (int i = 0; i < counters.length; i += 3) {
            octets(counters[i], 2);
            octets(counters[i + 1], 4);
            octets(counters[i + 2], 4);
        }
        int c = 7;
        for (int i = 0; i < at; i++) {
            c = (3 * c + OCTETS[i]) % 251;
        }
        octets(c, 1);
    }

    private static void feedLaid(HeavyThings x) {
        x.end(0);
        for (int from = 0; from < at; from += 12) {
            int[] words = new int[3];
            for (int i = 0; i < 12; i++) {
                words[i / 4] = (words[i / 4] << 8) | (from + i < at ? OCTETS[from + i] : 0);
            }
            x.feed(words[0], words[1], words[2]);
        }
        x.end(at);
    }

    private static HeavyThings loaded(HeavyThings x, int s, int room, int total, int absent, int halving, int... counters) {
        lay(room, total, absent, halving, counters);
        feedLaid(x);
        due(51, "read() of what the test laid", x.read(s), counters.length / 3);
        return x;
    }

    private static String order(HeavyThings x, int s) {
        StringBuilder b = new StringBuilder();
        for (int k = 0; k < x.has(s, 1); k++) {
            b.append(x.counter(s, k, 0)).append(':').append(x.counter(s, k, 1)).append('/').append(x.counter(s, k, 2)).append(' ');
        }
        return b.append("absent ").append(x.has(s, 3)).append(" total ").append(x.has(s, 2)).toString();
    }

    private static void dueOrder(int promise, HeavyThings x, int s, String want) {
        asked++;
        if (!order(x, s).equals(want)) {
            wrong++;
            System.out.println("promise " + promise + ": SUMMARY " + s + " is " + order(x, s) + ", due is " + want);
        }
    }

    // ---- summaries

    private static void newObject() {
        HeavyThings x = new HeavyThings();
        for (int s = -1; s <= 6; s++) {
            for (int what = -1; what <= 11; what++) {
                due(1, "has(" + s + ", " + what + ")", x.has(s, what), NONE);
            }
        }
        due(1, "pane(0, 0, 3)", x.pane(0, 0, 3), NONE);
        due(1, "pane(1, 0, 3)", x.pane(1, 0, 3), NONE);
        due(1, "octet(0)", x.octet(0), NONE);
        due(1, "fault(0)", x.fault(0), 0);
        due(1, "fault(1)", x.fault(1), NONE);
        due(1, "back(0)", x.back(0), -3);
        due(1, "back(1)", x.back(1), -3);
        due(1, "end(0)", x.end(0), true);
        due(1, "end(1)", x.end(1), false);
        due(1, "keep(0)", x.keep(0), 0);
    }

    private static void makeOne() {
        HeavyThings x = filled();
        x.halving(0, 1000);
        x.halve(0);
        due(2, "make(0, 25)", x.make(0, 25), -2);
        due(2, "make(0, 0)", x.make(0, 0), -2);
        dueOrder(2, x, 0, "4:2/0 1:2/2 2:2/1 absent 1 total 7");
        due(2, "make(0, 24)", x.make(0, 24), 1);
        due(2, "has(0, 0)", x.has(0, 0), 24);
        for (int what = 1; what <= 10; what++) {
            due(2, "has(0, " + what + ")", x.has(0, what), 0);
        }
        due(2, "gone(0, 0, 0)", x.gone(0, 0, 0), NONE);
        due(2, "bounds(0, 1, 3)", x.bounds(0, 1, 3), 0);
        due(2, "make(5, 1)", x.make(5, 1), 0);
        due(2, "make(5, 1)", x.make(5, 1), 1);
        for (int s : FAR) {
            due(2, "make(" + s + ", 1)", x.make(s, 1), -2);
        }
    }

    private static void dropOne() {
        HeavyThings x = filled();
        x.make(3, 1);
        x.make(5, 1);
        due(3, "drop(1)", x.drop(1), -2);
        due(3, "drop(3)", x.drop(3), 2);
        due(3, "drop(3)", x.drop(3), -2);
        due(3, "has(3, 0)", x.has(3, 0), NONE);
        due(3, "drop(0)", x.drop(0), 1);
        due(3, "drop(5)", x.drop(5), 0);
        due(3, "make(0, 2)", x.make(0, 2), 0);
        due(3, "has(0, 6)", x.has(0, 6), 0);
        for (int s : FAR) {
            due(3, "drop(" + s + ")", x.drop(s), -2);
        }
    }

    private static void hasWhat() {
        HeavyThings x = filled();
        x.halving(0, 500);
        int[] want = {3, 3, 14, 3, 500, 2, 4, 2, 0, 8, 14};
        for (int what = 0; what <= 10; what++) {
            due(4, "has(0, " + what + ")", x.has(0, what), want[what]);
        }
        due(4, "has(0, -1)", x.has(0, -1), NONE);
        due(4, "has(0, 11)", x.has(0, 11), NONE);
        due(4, "has(1, 0)", x.has(1, 0), NONE);
        for (int s : FAR) {
            due(4, "has(" + s + ", 0)", x.has(s, 0), NONE);
        }
        x.halve(0);
        due(4, "has(0, 8) once HALVED", x.has(0, 8), 1);
        x.make(1, 1);
        x.come(1, 7, 1);
        x.halve(1);
        due(4, "has(1, 6) of a TRUTH HALVED to 0", x.has(1, 6), 0);
        loaded(x, 2, 3, MOST, 0, 0, 1, 600000000, 0, 2, 600000000, 0, 3, MOST, 0);
        due(4, "has(2, 10), 1000000000 at most", x.has(2, 10), MOST);
        loaded(x, 2, 3, MOST, 0, 0, 1, 500000000, 0, 2, 500000000, 0);
        due(4, "has(2, 10), just so much", x.has(2, 10), MOST);
        loaded(x, 2, 3, MOST, 0, 0, 1, 499999999, 0, 2, 500000000, 0);
        due(4, "has(2, 10), one less", x.has(2, 10), MOST - 1);
    }

    private static void comes() {
        HeavyThings x = new HeavyThings();
        x.make(0, 2);
        due(5, "come(0, 0, 3), new", x.come(0, 0, 3), 1);
        due(5, "come(0, 999, 9999)", x.come(0, 999, 9999), 1);
        due(5, "come(0, 0, 1), counted", x.come(0, 0, 1), 0);
        due(5, "come(0, 5, 1), another one goes", x.come(0, 5, 1), 2);
        dueOrder(5, x, 0, "5:5/1 999:9999/9999 absent 4 total 10004");
        due(5, "come(0, 0, 2)", x.come(0, 0, 2), 2);
        dueOrder(5, x, 0, "0:7/2 999:9999/9999 absent 5 total 10006");
        due(5, "TRUTH of 0", x.bounds(0, 0, 3), 6);
        int[][] cant = {{0, -1, 1}, {0, 1000, 1}, {0, 5, 0}, {0, 5, -1}, {0, 5, 10000}, {1, 5, 1}, {-1, 5, 1}, {6, 5, 1}};
        for (int[] c : cant) {
            due(5, "come(" + c[0] + ", " + c[1] + ", " + c[2] + ")", x.come(c[0], c[1], c[2]), -2);
        }
        dueOrder(5, x, 0, "0:7/2 999:9999/9999 absent 5 total 10006");
        comesInBuckets();
        comesHalving();
        comesTooMuch();
        comesBelowAbsent();
    }

    private static void comesInBuckets() {
        HeavyThings x = new HeavyThings();
        x.make(0, 4);
        x.come(0, 9, 2);
        x.come(0, 8, 2);
        x.come(0, 7, 1);
        x.come(0, 7, 1);
        x.come(0, 6, 1);
        dueOrder(5, x, 0, "6:1/1 9:2/2 8:2/2 7:2/2 absent 0 total 7");
        x.come(0, 9, 1);
        x.come(0, 6, 2);
        dueOrder(5, x, 0, "8:2/2 7:2/2 9:3/3 6:3/3 absent 0 total 10");
    }

    private static void comesHalving() {
        HeavyThings x = new HeavyThings();
        x.make(0, 3);
        x.come(0, 1, 4);
        x.come(0, 2, 1);
        x.halving(0, 6);
        due(5, "come(0, 1, 1) with HALVING", x.come(0, 1, 1), 0);
        dueOrder(5, x, 0, "1:2/2 absent 0 total 3");
        due(5, "TRUTH of 1", x.bounds(0, 1, 3), 2);
        due(5, "come(0, 2, 2), not HALVED", x.come(0, 2, 2), 1);
        dueOrder(5, x, 0, "1:2/2 2:2/2 absent 0 total 5");
        x.halving(0, 2);
        due(5, "come(0, 3, 1), HALVED once, it loses its COUNTER", x.come(0, 3, 1), 1);
        dueOrder(5, x, 0, "1:1/1 2:1/1 absent 0 total 3");
        due(5, "has(0, 8)", x.has(0, 8), 2);
        due(5, "has(0, 7)", x.has(0, 7), 0);
    }

    private static void comesTooMuch() {
        HeavyThings x = loaded(new HeavyThings(), 0, 2, MOST - 9, 0, 0);
        due(5, "come(0, 1, 10), too much", x.come(0, 1, 10), -3);
        dueOrder(5, x, 0, "absent 0 total 999999991");
        due(5, "TRUTH of 1", x.bounds(0, 1, 3), 0);
        due(5, "come(0, 1, 9)", x.come(0, 1, 9), 1);
        x.halving(0, 1);
        due(5, "come(0, 1, 1), too much ahead of being HALVED", x.come(0, 1, 1), -3);
        due(5, "come(0, 1000, 1), -2 ahead of -3", x.come(0, 1000, 1), -2);
    }

    private static void comesBelowAbsent() {
        HeavyThings x = loaded(new HeavyThings(), 0, 1, 20, 10, 0, 4, 6, 6);
        due(5, "come(0, 5, 2), the one that goes has less than ABSENT", x.come(0, 5, 2), 2);
        dueOrder(5, x, 0, "5:12/2 absent 10 total 22");
        due(5, "gone(0, 0, 1)", x.gone(0, 0, 1), 6);
    }

    private static void streams() {
        HeavyThings x = new HeavyThings();
        x.make(0, 24);
        due(6, "stream(0, 0, 6)", x.stream(0, 0, 6), 0);
        dueOrder(6, x, 0, "5:1/1 15:1/1 12:1/1 8:2/2 28:2/2 0:3/3 absent 0 total 10");
        x.make(0, 3);
        due(6, "stream(0, 0, 6)", x.stream(0, 0, 6), 3);
        dueOrder(6, x, 0, "5:3/1 15:3/1 12:4/1 absent 3 total 10");
        x.make(0, 24);
        due(6, "stream(0, 2147483647, 4)", x.stream(0, Integer.MAX_VALUE, 4), 0);
        dueOrder(6, x, 0, "9:1/1 30:1/1 32:2/2 7:2/2 absent 0 total 6");
        due(6, "stream(0, 5, 100)", x.stream(0, 5, 100) >= 0, true);
        int[][] cant = {{0, -1, 1}, {0, 0, 0}, {0, 0, -1}, {0, 0, 101}, {1, 0, 1}, {6, 0, 1}, {-1, 0, 1}};
        for (int[] c : cant) {
            due(6, "stream(" + c[0] + ", " + c[1] + ", " + c[2] + ")", x.stream(c[0], c[1], c[2]), -2);
        }
        loaded(x, 1, 2, MOST - 14, 0, 0);
        due(6, "stream(1, 0, 3), could be too much", x.stream(1, 0, 3), -3);
        due(6, "has(1, 2)", x.has(1, 2), MOST - 14);
        due(6, "stream(1, 0, 2)", x.stream(1, 0, 2), 0);
        loaded(x, 1, 2, MOST - 15, 0, 0);
        due(6, "stream(1, 0, 3), just so much", x.stream(1, 0, 3), 1);
        x.make(2, 24);
        x.halving(2, 4);
        due(6, "stream(2, 0, 2), HALVED by itself", x.stream(2, 0, 2), 0);
        dueOrder(6, x, 2, "8:1/1 0:1/1 absent 0 total 2");
    }

    private static void halves() {
        HeavyThings x = filled();
        due(7, "halve(0)", x.halve(0), 0);
        dueOrder(7, x, 0, "4:2/0 1:2/2 2:2/1 absent 1 total 7");
        due(7, "TRUTH of 3", x.bounds(0, 3, 3), 1);
        due(7, "TRUTH of 4", x.bounds(0, 4, 3), 0);
        x.come(0, 4, 2);
        due(7, "halve(0)", x.halve(0), 0);
        due(7, "halve(0)", x.halve(0), 2);
        dueOrder(7, x, 0, "4:1/0 absent 0 total 2");
        due(7, "has(0, 7), they are not GONE", x.has(0, 7), 2);
        due(7, "has(0, 8)", x.has(0, 8), 3);
        due(7, "halve(1)", x.halve(1), -2);
        for (int s : FAR) {
            due(7, "halve(" + s + ")", x.halve(s), -2);
        }
    }

    private static void setsHalving() {
        HeavyThings x = filled();
        due(8, "halving(0, 1)", x.halving(0, 1), 0);
        dueOrder(8, x, 0, "4:4/1 1:5/5 2:5/2 absent 3 total 14");
        due(8, "halving(0, 1000000000)", x.halving(0, MOST), 1);
        due(8, "halving(0, 1000000001)", x.halving(0, MOST + 1), -2);
        due(8, "halving(0, -1)", x.halving(0, -1), -2);
        due(8, "halving(0, 0)", x.halving(0, 0), MOST);
        due(8, "has(0, 4)", x.has(0, 4), 0);
        due(8, "halving(1, 0)", x.halving(1, 0), -2);
        for (int s : FAR) {
            due(8, "halving(" + s + ", 5)", x.halving(s, 5), -2);
        }
    }

    private static void resizes() {
        HeavyThings x = filled();
        due(9, "resize(0, 24)", x.resize(0, 24), 0);
        due(9, "has(0, 0)", x.has(0, 0), 24);
        x.come(0, 9, 2);
        dueOrder(9, x, 0, "4:4/1 1:5/5 2:5/2 9:5/2 absent 3 total 16");
        due(9, "resize(0, 2), of like ones the last stay", x.resize(0, 2), 2);
        dueOrder(9, x, 0, "2:5/2 9:5/2 absent 5 total 16");
        due(9, "has(0, 7), they are not GONE", x.has(0, 7), 2);
        due(9, "resize(0, 2)", x.resize(0, 2), 0);
        due(9, "resize(0, 0)", x.resize(0, 0), -2);
        due(9, "resize(0, 25)", x.resize(0, 25), -2);
        due(9, "resize(1, 2)", x.resize(1, 2), -2);
        due(9, "resize(6, 2)", x.resize(6, 2), -2);
        due(9, "resize(-1, 2)", x.resize(-1, 2), -2);
        loaded(x, 1, 3, 20, 9, 0, 4, 6, 6, 5, 7, 7);
        due(9, "resize(1, 1), ABSENT is more already", x.resize(1, 1), 1);
        dueOrder(9, x, 1, "5:7/7 absent 9 total 20");
    }

    private static void merges() {
        HeavyThings x = filled();
        x.make(1, 4);
        x.come(1, 3, 2);
        x.come(1, 1, 2);
        x.come(1, 7, 2);
        x.halving(0, 3);
        x.keep(0);
        due(10, "merge(0, 1)", x.merge(0, 1), 2);
        // 1: 5 + 2; 2: 5; 4: 4; 3: 3 + 2; 7: 3 + 2. Three stay: 1, then 2 and 3 of 2, 3, 7.
        dueOrder(10, x, 0, "2:5/2 3:5/2 1:7/7 absent 5 total 20");
        due(10, "TRUTH of 3", x.bounds(0, 3, 3), 5);
        due(10, "has(0, 4)", x.has(0, 4), 3);
        due(10, "has(0, 0)", x.has(0, 0), 3);
        due(10, "has(0, 7)", x.has(0, 7), 2);
        due(10, "has(0, 8), not HALVED by this", x.has(0, 8), 0);
        dueOrder(10, x, 1, "3:2/2 1:2/2 7:2/2 absent 0 total 6");
        x.back(0);
        due(10, "merge(1, 0)", x.merge(1, 0), 1);
        dueOrder(10, x, 1, "2:5/2 3:5/2 7:5/2 1:7/7 absent 4 total 20");
        x.make(2, 2);
        due(10, "merge(1, 2), none left out", x.merge(1, 2), 0);
        dueOrder(10, x, 1, "2:5/2 3:5/2 7:5/2 1:7/7 absent 4 total 20");
        loaded(x, 2, 3, 40, 6, 0, 8, 7, 3);
        loaded(x, 5, 3, 50, 9, 0, 7, 10, 10);
        due(10, "merge(2, 5), both with an ABSENT", x.merge(2, 5), 0);
        dueOrder(10, x, 2, "7:16/10 8:16/3 absent 15 total 90");
        int[][] cant = {{0, 0}, {0, 3}, {3, 0}, {3, 3}, {0, 6}, {6, 0}, {-1, 0}, {0, -1}};
        for (int[] c : cant) {
            due(10, "merge(" + c[0] + ", " + c[1] + ")", x.merge(c[0], c[1]), -2);
        }
        loaded(x, 3, 1, MOST - 14, 1, 0);
        loaded(x, 4, 1, MOST - 13, 1, 0);
        due(10, "merge(4, 0), too much", x.merge(4, 0), -3);
        due(10, "merge(0, 4), too much", x.merge(0, 4), -3);
        dueOrder(10, x, 0, "4:4/1 1:5/5 2:5/2 absent 3 total 14");
        due(10, "merge(3, 0), just so much", x.merge(3, 0), 2);
        dueOrder(10, x, 3, "1:6/5 absent 6 total 1000000000");
    }

    private static void copies() {
        HeavyThings x = filled();
        x.come(0, 1, 5);
        x.come(0, 2, 5);
        x.come(0, 4, 4);
        x.halve(0);
        x.halving(0, 77);
        x.make(5, 9);
        x.come(5, 500, 5);
        due(11, "copy(5, 0)", x.copy(5, 0), 3);
        due(11, "copy(4, 0), made", x.copy(4, 0), 3);
        for (int s = 4; s <= 5; s++) {
            dueOrder(11, x, s, "4:4/2 1:5/5 2:5/3 absent 1 total 14");
            for (int what = 0; what <= 10; what++) {
                due(11, "has(" + s + ", " + what + ")", x.has(s, what), x.has(0, what));
            }
            due(11, "has(" + s + ", 8)", x.has(s, 8), 1);
            due(11, "gone(" + s + ", 0, 0)", x.gone(s, 0, 0), 3);
            due(11, "gone(" + s + ", 1, 2)", x.gone(s, 1, 2), 4);
        }
        due(11, "TRUTH of 500", x.bounds(5, 500, 3), 0);
        x.come(0, 1, 1);
        x.come(4, 2, 1);
        dueOrder(11, x, 0, "4:4/2 2:5/3 1:6/6 absent 1 total 15");
        dueOrder(11, x, 4, "4:4/2 1:5/5 2:6/4 absent 1 total 15");
        dueOrder(11, x, 5, "4:4/2 1:5/5 2:5/3 absent 1 total 14");
        due(11, "TRUTH of 2", x.bounds(5, 2, 3), 5);
        int[][] cant = {{0, 0}, {0, 1}, {1, 1}, {6, 0}, {-1, 0}, {0, 6}, {0, -1}};
        for (int[] c : cant) {
            due(11, "copy(" + c[0] + ", " + c[1] + ")", x.copy(c[0], c[1]), -2);
        }
    }

    // ---- counters

    private static void counters() {
        HeavyThings x = filled();
        int[][] want = {{4, 4, 1, 3, 0}, {1, 5, 5, 0, 1}, {2, 5, 2, 3, 1}};
        for (int k = 0; k < 3; k++) {
            for (int what = 0; what < 5; what++) {
                due(12, "counter(0, " + k + ", " + what + ")", x.counter(0, k, what), want[k][what]);
            }
            due(12, "counter(0, " + k + ", 5)", x.counter(0, k, 5), NONE);
            due(12, "counter(0, " + k + ", -1)", x.counter(0, k, -1), NONE);
        }
        due(12, "counter(0, 3, 0)", x.counter(0, 3, 0), NONE);
        due(12, "counter(0, -1, 0)", x.counter(0, -1, 0), NONE);
        due(12, "counter(0, 24, 0)", x.counter(0, 24, 0), NONE);
        due(12, "counter(1, 0, 0)", x.counter(1, 0, 0), NONE);
        due(12, "counter(6, 0, 0)", x.counter(6, 0, 0), NONE);
        due(12, "counter(-1, 0, 0)", x.counter(-1, 0, 0), NONE);
    }

    private static void buckets() {
        HeavyThings x = filled();
        x.resize(0, 4);
        x.come(0, 7, 6);
        int[][] want = {{4, 1, 4, 4}, {5, 2, 1, 2}, {9, 1, 7, 7}};
        for (int k = 0; k < 3; k++) {
            for (int what = 0; what < 4; what++) {
                due(13, "bucket(0, " + k + ", " + what + ")", x.bucket(0, k, what), want[k][what]);
            }
            due(13, "bucket(0, " + k + ", 4)", x.bucket(0, k, 4), NONE);
            due(13, "bucket(0, " + k + ", -1)", x.bucket(0, k, -1), NONE);
        }
        due(13, "bucket(0, 3, 0)", x.bucket(0, 3, 0), NONE);
        due(13, "bucket(0, -1, 0)", x.bucket(0, -1, 0), NONE);
        due(13, "bucket(1, 0, 0)", x.bucket(1, 0, 0), NONE);
        due(13, "bucket(6, 0, 0)", x.bucket(6, 0, 0), NONE);
    }

    private static void boundsOf() {
        HeavyThings x = filled();
        int[][] want = {{3, 0, 0, 0, NONE}, {5, 5, 1, 5, 0}, {5, 2, 1, 5, 1}, {3, 0, 0, 3, NONE}, {4, 1, 1, 1, 2}};
        for (int t = 0; t < 5; t++) {
            for (int what = 0; what < 5; what++) {
                due(14, "bounds(0, " + t + ", " + what + ")", x.bounds(0, t, what), want[t][what]);
            }
            due(14, "bounds(0, " + t + ", 5)", x.bounds(0, t, 5), NONE);
            due(14, "bounds(0, " + t + ", -1)", x.bounds(0, t, -1), NONE);
        }
        due(14, "bounds(0, 999, 0)", x.bounds(0, 999, 0), 3);
        due(14, "bounds(0, 1000, 0)", x.bounds(0, 1000, 0), NONE);
        due(14, "bounds(0, -1, 0)", x.bounds(0, -1, 0), NONE);
        due(14, "bounds(1, 0, 0)", x.bounds(1, 0, 0), NONE);
        due(14, "bounds(6, 0, 0)", x.bounds(6, 0, 0), NONE);
    }

    private static void goneOnes() {
        HeavyThings x = new HeavyThings();
        x.make(0, 1);
        for (int t = 0; t < 30; t++) {
            x.come(0, t, 2);
        }
        due(15, "has(0, 7)", x.has(0, 7), 29);
        for (int k = 0; k < 20; k++) {
            due(15, "gone(0, " + k + ", 0)", x.gone(0, k, 0), 28 - k);
            due(15, "gone(0, " + k + ", 1)", x.gone(0, k, 1), 2 * (29 - k));
            due(15, "gone(0, " + k + ", 2)", x.gone(0, k, 2), 29 - k);
        }
        due(15, "gone(0, 20, 0)", x.gone(0, 20, 0), NONE);
        due(15, "gone(0, -1, 0)", x.gone(0, -1, 0), NONE);
        due(15, "gone(0, 0, 3)", x.gone(0, 0, 3), NONE);
        due(15, "gone(0, 0, -1)", x.gone(0, 0, -1), NONE);
        due(15, "gone(1, 0, 0)", x.gone(1, 0, 0), NONE);
        due(15, "gone(6, 0, 0)", x.gone(6, 0, 0), NONE);
        x.halve(0);
        due(15, "gone(0, 0, 1), as it was", x.gone(0, 0, 1), 58);
        x.make(0, 1);
        due(15, "gone(0, 0, 0), made anew", x.gone(0, 0, 0), NONE);
        x = filled();
        due(15, "gone(0, 1, 0)", x.gone(0, 1, 0), 2);
        due(15, "gone(0, 2, 0)", x.gone(0, 2, 0), NONE);
    }

    // ---- lists

    private static void tops() {
        HeavyThings x = filled();
        due(16, "top(0, 1, NONE)", x.top(0, 1, NONE), 1);
        due(16, "top(0, 3, NONE)", x.top(0, 3, NONE), 3);
        due(16, "top(0, 24, NONE)", x.top(0, 24, NONE), 3);
        due(16, "top(0, 2, 0)", x.top(0, 2, 0), 1);
        due(16, "top(0, 2, 1)", x.top(0, 2, 1), 2);
        due(16, "top(0, 2, 2)", x.top(0, 2, 2), NONE);
        due(16, "top(0, 24, 2)", x.top(0, 24, 2), 4);
        due(16, "top(0, 24, 3)", x.top(0, 24, 3), NONE);
        due(16, "top(0, 24, -2)", x.top(0, 24, -2), NONE);
        due(16, "top(0, 0, NONE)", x.top(0, 0, NONE), NONE);
        due(16, "top(0, 25, NONE)", x.top(0, 25, NONE), NONE);
        due(16, "top(1, 1, NONE)", x.top(1, 1, NONE), NONE);
        due(16, "top(6, 1, NONE)", x.top(6, 1, NONE), NONE);
        x.come(0, 1, 1);
        x.come(0, 2, 1);
        x.resize(0, 4);
        x.come(0, 0, 3);
        // like COUNTS by the lesser THING, not by ORDER: 1 and 2 and 0 have 6
        due(16, "top(0, 1, 0)", x.top(0, 1, 0), 0);
    }

    private static void sures() {
        HeavyThings x = filled();
        due(17, "sure(0, 1, false, NONE)", x.sure(0, 1, false, NONE), 0);
        due(17, "sure(0, 2, false, NONE)", x.sure(0, 2, false, NONE), 1);
        due(17, "sure(0, 2, false, 0)", x.sure(0, 2, false, 0), 1);
        due(17, "sure(0, 24, false, NONE)", x.sure(0, 24, false, NONE), 1);
        due(17, "sure(0, 1, true, NONE)", x.sure(0, 1, true, NONE), 2);
        due(17, "sure(0, 1, true, 1)", x.sure(0, 1, true, 1), 2);
        due(17, "sure(0, 2, true, NONE)", x.sure(0, 2, true, NONE), 3);
        due(17, "sure(0, 2, true, 2)", x.sure(0, 2, true, 2), 4);
        due(17, "sure(0, 2, true, 3)", x.sure(0, 2, true, 3), NONE);
        due(17, "sure(0, 2, true, -2)", x.sure(0, 2, true, -2), NONE);
        due(17, "sure(0, 0, true, NONE)", x.sure(0, 0, true, NONE), NONE);
        due(17, "sure(0, 25, true, NONE)", x.sure(0, 25, true, NONE), NONE);
        due(17, "sure(1, 1, true, NONE)", x.sure(1, 1, true, NONE), NONE);
        // LOW just ABSENT: all without COUNTERS can have come as often
        loaded(x, 1, 3, 30, 4, 0, 5, 9, 4, 6, 9, 5);
        due(17, "sure(1, 24, false, NONE)", x.sure(1, 24, false, NONE), 1);
        due(17, "sure(1, 24, false, 0)", x.sure(1, 24, false, 0), 6);
        // LOW just its HIGH is not above it
        loaded(x, 1, 3, 30, 0, 0, 5, 5, 0, 6, 9, 5);
        due(17, "sure(1, 1, true, NONE)", x.sure(1, 1, true, NONE), 2);
        due(17, "sure(1, 1, true, 1)", x.sure(1, 1, true, 1), 5);
    }

    private static void opens() {
        HeavyThings x = filled();
        due(18, "open(0, 1)", x.open(0, 1), 0);
        due(18, "open(0, 2)", x.open(0, 2), 1);
        due(18, "open(0, 24)", x.open(0, 24), 1);
        due(18, "open(0, 0)", x.open(0, 0), NONE);
        due(18, "open(0, 25)", x.open(0, 25), NONE);
        due(18, "open(1, 1)", x.open(1, 1), NONE);
        due(18, "open(-1, 1)", x.open(-1, 1), NONE);
        loaded(x, 1, 3, 30, 4, 0, 5, 9, 4, 6, 9, 5);
        due(18, "open(1, 1), one is above", x.open(1, 1), 0);
        due(18, "open(1, 2), LOW just ABSENT", x.open(1, 2), 1);
    }

    private static void heavies() {
        HeavyThings x = new HeavyThings();
        loaded(x, 0, 4, 20, 1, 0, 5, 2, 0, 9, 4, 4, 3, 4, 1, 6, 10, 8);
        due(19, "heavy(0, 200, true, NONE), just so many", x.heavy(0, 200, true, NONE), 3);
        due(19, "heavy(0, 200, true, 0)", x.heavy(0, 200, true, 0), 6);
        due(19, "heavy(0, 200, true, 1)", x.heavy(0, 200, true, 1), 3);
        due(19, "heavy(0, 200, true, 2)", x.heavy(0, 200, true, 2), 9);
        due(19, "heavy(0, 200, true, 3)", x.heavy(0, 200, true, 3), NONE);
        due(19, "heavy(0, 200, false, NONE)", x.heavy(0, 200, false, NONE), 2);
        due(19, "heavy(0, 200, false, 1)", x.heavy(0, 200, false, 1), 9);
        due(19, "heavy(0, 201, true, NONE)", x.heavy(0, 201, true, NONE), 1);
        due(19, "heavy(0, 1, false, NONE), not 0 times", x.heavy(0, 1, false, NONE), 3);
        due(19, "heavy(0, 1000, true, NONE)", x.heavy(0, 1000, true, NONE), 0);
        due(19, "heavy(0, 0, true, NONE)", x.heavy(0, 0, true, NONE), NONE);
        due(19, "heavy(0, 1001, true, NONE)", x.heavy(0, 1001, true, NONE), NONE);
        due(19, "heavy(1, 1, true, NONE)", x.heavy(1, 1, true, NONE), NONE);
        due(19, "heavy(0, 1, true, -2)", x.heavy(0, 1, true, -2), NONE);
        loaded(x, 1, 1, MOST, 0, 0, 7, MOST, MOST);
        due(19, "heavy(1, 1000, false, 0)", x.heavy(1, 1000, false, 0), 7);
        loaded(x, 1, 1, MOST, 0, 0, 7, MOST - 1, MOST - 1);
        due(19, "heavy(1, 1000, true, NONE)", x.heavy(1, 1000, true, NONE), 0);
        due(19, "heavy(1, 999, true, NONE)", x.heavy(1, 999, true, NONE), 1);
    }

    private static void fewests() {
        HeavyThings x = new HeavyThings();
        loaded(x, 0, 4, 20, 1, 0, 5, 2, 0, 9, 4, 4, 3, 4, 1, 6, 10, 8);
        int[][] want = {{0, 0}, {1, 1}, {400, 1}, {401, 2}, {450, 2}, {451, 3}, {650, 3}, {651, NONE}, {1000, NONE}};
        for (int[] w : want) {
            due(20, "fewest(0, " + w[0] + ")", x.fewest(0, w[0]), w[1]);
        }
        due(20, "fewest(0, -1)", x.fewest(0, -1), NONE);
        due(20, "fewest(0, 1001)", x.fewest(0, 1001), NONE);
        due(20, "fewest(1, 0)", x.fewest(1, 0), NONE);
        x.make(1, 4);
        due(20, "fewest(1, 1000), of none", x.fewest(1, 1000), 0);
        loaded(x, 1, 2, MOST, 0, 0, 7, MOST, 400000000, 8, MOST, 600000000);
        due(20, "fewest(1, 1000)", x.fewest(1, 1000), 2);
        due(20, "fewest(1, 400)", x.fewest(1, 400), 1);
    }

    private static void groups() {
        HeavyThings x = filled();
        int[][] want = {{2, 0, 2, 9, 3, 6}, {2, 1, 1, 5, 5, 8}, {1, 0, 3, 14, 8, 14}, {3, 0, 0, 0, 0, 3}, {100, 4, 1, 4, 1, 1}};
        for (int[] w : want) {
            for (int what = 0; what < 4; what++) {
                due(21, "group(0, " + w[0] + ", " + w[1] + ", " + what + ")", x.group(0, w[0], w[1], what), w[2 + what]);
            }
        }
        int[][] cant = {{0, 0, 0}, {101, 0, 0}, {2, 2, 0}, {2, -1, 0}, {2, 0, 4}, {2, 0, -1}, {-1, 0, 0}};
        for (int[] c : cant) {
            due(21, "group(0, " + c[0] + ", " + c[1] + ", " + c[2] + ")", x.group(0, c[0], c[1], c[2]), NONE);
        }
        due(21, "group(1, 2, 0, 0)", x.group(1, 2, 0, 0), NONE);
        loaded(x, 1, 3, MOST, 0, 0, 2, 600000000, 0, 4, 600000000, 0, 5, MOST, 0);
        due(21, "group(1, 2, 0, 1), 1000000000 at most", x.group(1, 2, 0, 1), MOST);
    }

    // ---- what would be

    private static void victims() {
        HeavyThings x = filled();
        due(22, "victim(0)", x.victim(0), 4);
        x.resize(0, 4);
        due(22, "victim(0), none would", x.victim(0), NONE);
        due(22, "victim(1)", x.victim(1), -2);
        for (int s : FAR) {
            due(22, "victim(" + s + ")", x.victim(s), -2);
        }
    }

    private static void woulds() {
        HeavyThings x = filled();
        int[][] want = {{3, 2, 6, 2, 0, 4, 16}, {4, 1, 5, 2, 2, 3, 15}, {4, 2, 6, 3, 0, 3, 16}, {1, 9999, 10004, 10004, 0, 3, 10013}};
        for (int[] w : want) {
            for (int what = 0; what < 5; what++) {
                due(23, "would(0, " + w[0] + ", " + w[1] + ", " + what + ")", x.would(0, w[0], w[1], what), w[2 + what]);
            }
        }
        dueOrder(23, x, 0, "4:4/1 1:5/5 2:5/2 absent 3 total 14");
        due(23, "has(0, 7)", x.has(0, 7), 2);
        x.halving(0, 15);
        due(23, "would(0, 1, 1, 0), HALVED", x.would(0, 1, 1, 0), 3);
        due(23, "would(0, 1, 1, 3), HALVED", x.would(0, 1, 1, 3), 1);
        due(23, "would(0, 1, 1, 4), HALVED", x.would(0, 1, 1, 4), 7);
        due(23, "has(0, 8)", x.has(0, 8), 0);
        x.make(1, 1);
        x.halving(1, 1);
        due(23, "would(1, 5, 1, 0), no COUNTER then", x.would(1, 5, 1, 0), NONE);
        due(23, "would(1, 5, 1, 1), no COUNTER then", x.would(1, 5, 1, 1), NONE);
        due(23, "would(1, 5, 1, 2), no COUNTER then", x.would(1, 5, 1, 2), NONE);
        due(23, "would(1, 5, 1, 3)", x.would(1, 5, 1, 3), 0);
        int[][] cant = {{2, 1, 1, 0}, {6, 1, 1, 0}, {0, -1, 1, 0}, {0, 1000, 1, 0}, {0, 1, 0, 0}, {0, 1, 10000, 0}, {0, 1, 1, 5}, {0, 1, 1, -1}};
        for (int[] c : cant) {
            due(23, "would(" + c[0] + ", " + c[1] + ", " + c[2] + ", " + c[3] + ")", x.would(c[0], c[1], c[2], c[3]), -2);
        }
        loaded(x, 2, 2, MOST - 1, 0, 0);
        due(23, "would(2, 1, 2, 4)", x.would(2, 1, 2, 4), -3);
        due(23, "would(2, 1, 2, 5)", x.would(2, 1, 2, 5), -2);
        due(23, "would(2, 1, 1, 4)", x.would(2, 1, 1, 4), MOST);
    }

    private static void needs() {
        HeavyThings x = filled();
        int[][] want = {{1, 1, 1}, {1, 2, 0}, {2, 1, 4}, {2, 2, 3}, {2, 3, 2}, {2, 24, 2}, {9, 1, 6}, {9, 2, 6}, {9, 3, 5}, {4, 1, 5}};
        for (int[] w : want) {
            due(24, "need(0, " + w[0] + ", " + w[1] + ")", x.need(0, w[0], w[1]), w[2]);
        }
        x.halving(0, 1);
        due(24, "need(0, 9, 1), nothing HALVED", x.need(0, 9, 1), 6);
        dueOrder(24, x, 0, "4:4/1 1:5/5 2:5/2 absent 3 total 14");
        int[][] cant = {{1, 1, 1}, {-1, 1, 1}, {6, 1, 1}, {0, -1, 1}, {0, 1000, 1}, {0, 1, 0}, {0, 1, 25}};
        for (int[] c : cant) {
            due(24, "need(" + c[0] + ", " + c[1] + ", " + c[2] + ")", x.need(c[0], c[1], c[2]), -2);
        }
        x.make(1, 2);
        due(24, "need(1, 7, 24), without a COUNTER", x.need(1, 7, 24), 1);
        loaded(x, 1, 2, MOST, 0, 0, 7, 1000000, 0);
        due(24, "need(1, 8, 1), by none", x.need(1, 8, 1), NONE);
        due(24, "need(1, 8, 2), whatever TOTAL", x.need(1, 8, 2), 1);
        due(24, "need(1, 7, 1)", x.need(1, 7, 1), 1);
        loaded(x, 1, 2, MOST, 0, 0, 7, 999999, 0);
        due(24, "need(1, 8, 1), by the greatest", x.need(1, 8, 1), 1000000);
    }

    private static void mergedOnPaper() {
        HeavyThings x = filled();
        x.make(1, 4);
        x.come(1, 3, 2);
        x.come(1, 1, 2);
        x.come(1, 7, 2);
        int[][] want = {{1, 7, 7, 1, 5, 2}, {3, 5, 2, 1, 5, 2}, {7, 5, 0, 0, 5, 2}, {4, 5, 0, 0, 5, 2}, {999, 5, 0, 0, 5, 2}};
        for (int[] w : want) {
            for (int what = 0; what < 5; what++) {
                due(25, "merged(0, 1, " + w[0] + ", " + what + ")", x.merged(0, 1, w[0], what), w[1 + what]);
            }
        }
        due(25, "merged(1, 0, 7, 0)", x.merged(1, 0, 7, 0), 5);
        due(25, "merged(1, 0, 7, 4)", x.merged(1, 0, 7, 4), 1);
        dueOrder(25, x, 0, "4:4/1 1:5/5 2:5/2 absent 3 total 14");
        int[][] cant = {{0, 0, 1, 0}, {0, 2, 1, 0}, {2, 0, 1, 0}, {0, 6, 1, 0}, {0, 1, -1, 0}, {0, 1, 1000, 3}, {0, 1, 1, 5}, {0, 1, 1, -1}};
        for (int[] c : cant) {
            due(25, "merged(" + c[0] + ", " + c[1] + ", " + c[2] + ", " + c[3] + ")", x.merged(c[0], c[1], c[2], c[3]), -2);
        }
        loaded(x, 2, 1, MOST - 13, 1, 0);
        due(25, "merged(2, 0, 1, 0), too much", x.merged(2, 0, 1, 0), -3);
        due(25, "merged(2, 0, 1, 5)", x.merged(2, 0, 1, 5), -2);
    }

    private static void risenFrom() {
        HeavyThings x = filled();
        x.make(1, 4);
        x.come(1, 2, 9);
        x.come(1, 7, 2);
        due(26, "risen(0, 1, 2, false)", x.risen(0, 1, 2, false), 4);
        due(26, "risen(0, 1, 2, true)", x.risen(0, 1, 2, true), 7);
        due(26, "risen(1, 0, 2, false)", x.risen(1, 0, 2, false), -7);
        due(26, "risen(1, 0, 2, true)", x.risen(1, 0, 2, true), -4);
        due(26, "risen(0, 1, 7, false)", x.risen(0, 1, 7, false), -1);
        due(26, "risen(0, 1, 7, true)", x.risen(0, 1, 7, true), 2);
        due(26, "risen(0, 0, 4, false), one with itself", x.risen(0, 0, 4, false), -3);
        due(26, "risen(0, 0, 999, true)", x.risen(0, 0, 999, true), 3);
        int[][] cant = {{0, 2, 1}, {2, 0, 1}, {0, 6, 1}, {-1, 0, 1}, {0, 1, -1}, {0, 1, 1000}};
        for (int[] c : cant) {
            due(26, "risen(" + c[0] + ", " + c[1] + ", " + c[2] + ", true)", x.risen(c[0], c[1], c[2], true), -2000000000);
            due(26, "risen(" + c[0] + ", " + c[1] + ", " + c[2] + ", false)", x.risen(c[0], c[1], c[2], false), -2000000000);
        }
    }

    private static void roseFrom() {
        HeavyThings x = filled();
        x.make(1, 6);
        x.come(1, 7, 4);
        x.come(1, 2, 9);
        x.come(1, 8, 7);
        x.come(1, 6, 7);
        x.come(1, 9, 3);
        x.come(1, 1, 5);
        // least RISEN from 0: 2: 4, 6: 4, 8: 4, 7: 1, 9: 0, 1: 0
        due(27, "rose(0, 1, NONE)", x.rose(0, 1, NONE), 4);
        int[] want = {2, 6, 8, 7, NONE};
        for (int i = 0; i < 5; i++) {
            due(27, "rose(0, 1, " + i + ")", x.rose(0, 1, i), want[i]);
        }
        due(27, "rose(0, 1, -2)", x.rose(0, 1, -2), NONE);
        due(27, "rose(1, 0, NONE)", x.rose(1, 0, NONE), 1);
        due(27, "rose(1, 0, 0)", x.rose(1, 0, 0), 4);
        due(27, "rose(0, 0, NONE)", x.rose(0, 0, NONE), 0);
        due(27, "rose(0, 2, NONE)", x.rose(0, 2, NONE), NONE);
        due(27, "rose(2, 0, NONE)", x.rose(2, 0, NONE), NONE);
        due(27, "rose(6, 0, NONE)", x.rose(6, 0, NONE), NONE);
    }

    private static void alikeTops() {
        HeavyThings x = filled();
        x.make(1, 3);
        x.come(1, 4, 7);
        x.come(1, 2, 7);
        x.come(1, 9, 1);
        due(28, "alike(0, 1, 1)", x.alike(0, 1, 1), 0);
        due(28, "alike(0, 1, 2)", x.alike(0, 1, 2), 1);
        due(28, "alike(0, 1, 3)", x.alike(0, 1, 3), 2);
        due(28, "alike(1, 0, 24)", x.alike(1, 0, 24), 2);
        due(28, "alike(0, 0, 2)", x.alike(0, 0, 2), 2);
        due(28, "alike(0, 1, 0)", x.alike(0, 1, 0), NONE);
        due(28, "alike(0, 1, 25)", x.alike(0, 1, 25), NONE);
        due(28, "alike(0, 2, 1)", x.alike(0, 2, 1), NONE);
        due(28, "alike(-1, 0, 1)", x.alike(-1, 0, 1), NONE);
    }

    private static void places() {
        HeavyThings x = filled();
        int[][] want = {{1, 0, 0}, {2, 0, 999}, {4, 1, 999}, {9, 1, 999}};
        for (int[] w : want) {
            due(29, "place(0, " + w[0] + ", false)", x.place(0, w[0], false), w[1]);
            due(29, "place(0, " + w[0] + ", true)", x.place(0, w[0], true), w[2]);
        }
        loaded(x, 1, 3, 30, 4, 0, 5, 9, 4, 6, 9, 5);
        due(29, "place(1, 5, true), ABSENT just its LOW", x.place(1, 5, true), 1);
        due(29, "place(1, 5, false)", x.place(1, 5, false), 0);
        due(29, "place(1, 0, false), LOW just ABSENT", x.place(1, 0, false), 1);
        x.make(2, 1);
        due(29, "place(2, 0, true), none came", x.place(2, 0, true), 0);
        due(29, "place(0, -1, true)", x.place(0, -1, true), NONE);
        due(29, "place(0, 1000, false)", x.place(0, 1000, false), NONE);
        due(29, "place(3, 0, true)", x.place(3, 0, true), NONE);
        due(29, "place(6, 0, true)", x.place(6, 0, true), NONE);
    }

    private static void aparts() {
        HeavyThings x = filled();
        x.make(1, 4);
        x.come(1, 2, 9);
        x.come(1, 7, 2);
        // 4: 1 .. 4 to 0; 1: 5 to 0; 2: 2 .. 5 to 9; 7: 0 .. 3 to 2
        due(30, "apart(0, 1, false)", x.apart(0, 1, false), 1 + 5 + 4);
        due(30, "apart(0, 1, true)", x.apart(0, 1, true), 4 + 5 + 7 + 2);
        due(30, "apart(1, 0, false)", x.apart(1, 0, false), 10);
        due(30, "apart(1, 0, true)", x.apart(1, 0, true), 18);
        due(30, "apart(0, 0, true)", x.apart(0, 0, true), 6);
        due(30, "apart(0, 0, false)", x.apart(0, 0, false), 0);
        due(30, "apart(0, 2, true)", x.apart(0, 2, true), NONE);
        due(30, "apart(2, 0, true)", x.apart(2, 0, true), NONE);
        due(30, "apart(0, 6, false)", x.apart(0, 6, false), NONE);
        loaded(x, 2, 2, MOST, 0, 0, 5, MOST, 0, 6, MOST, 0);
        due(30, "apart(2, 0, true), 1000000000 at most", x.apart(2, 0, true), MOST);
    }

    private static void exacts() {
        HeavyThings x = filled();
        due(31, "exact(0, NONE)", x.exact(0, NONE), 1);
        due(31, "exact(0, 0)", x.exact(0, 0), 1);
        due(31, "exact(0, 1)", x.exact(0, 1), NONE);
        due(31, "exact(0, -2)", x.exact(0, -2), NONE);
        x.make(1, 5);
        x.come(1, 9, 3);
        x.come(1, 4, 3);
        x.come(1, 6, 1);
        due(31, "exact(1, NONE)", x.exact(1, NONE), 3);
        due(31, "exact(1, 0)", x.exact(1, 0), 6);
        due(31, "exact(1, 1), in ORDER", x.exact(1, 1), 9);
        due(31, "exact(1, 2)", x.exact(1, 2), 4);
        due(31, "exact(2, NONE)", x.exact(2, NONE), NONE);
        due(31, "exact(6, NONE)", x.exact(6, NONE), NONE);
    }

    private static void clears() {
        HeavyThings x = filled();
        due(32, "clear(0)", x.clear(0), 358);
        x.make(1, 3);
        due(32, "clear(1), none came", x.clear(1), 1);
        x.come(1, 5, 3);
        x.come(1, 6, 4);
        due(32, "clear(1), all exact", x.clear(1), 1);
        loaded(x, 2, 1, 7, 0, 0, 5, 7, 6);
        due(32, "clear(2), not by 1000", x.clear(2), NONE);
        loaded(x, 2, 2, 1000, 0, 0, 5, 999, 998);
        due(32, "clear(2), by 1000 alone", x.clear(2), 1000);
        loaded(x, 2, 2, 100000, 0, 0, 5, 299, 250);
        due(32, "clear(2), HIGH and LOW of one thousandth", x.clear(2), 1);
        loaded(x, 2, 2, 1, 0, 0, 5, 1, 0);
        due(32, "clear(2), of the least TOTAL", x.clear(2), NONE);
        due(32, "clear(3)", x.clear(3), NONE);
        due(32, "clear(6)", x.clear(6), NONE);
    }

    private static void lastsTill() {
        HeavyThings x = filled();
        due(33, "lasts(0, 4, 1)", x.lasts(0, 4, 1), 1);
        due(33, "lasts(0, 1, 1)", x.lasts(0, 1, 1), 2);
        due(33, "lasts(0, 2, 1)", x.lasts(0, 2, 1), 3);
        due(33, "lasts(0, 9, 1)", x.lasts(0, 9, 1), 0);
        x.halving(0, 1);
        due(33, "lasts(0, 2, 1), nothing HALVED", x.lasts(0, 2, 1), 3);
        dueOrder(33, x, 0, "4:4/1 1:5/5 2:5/2 absent 3 total 14");
        loaded(x, 1, 2, 100, 0, 1, 7, 9, 9);
        due(33, "lasts(1, 7, 1), nothing HALVED", x.lasts(1, 7, 1), 10);
        loaded(x, 1, 2, MOST, 0, 0, 7, 99, 99);
        due(33, "lasts(1, 7, 1), whatever TOTAL", x.lasts(1, 7, 1), 100);
        loaded(x, 1, 2, MOST, 0, 0, 7, 100, 100);
        due(33, "lasts(1, 7, 1), not by 100", x.lasts(1, 7, 1), NONE);
        due(33, "lasts(1, 7, 9999)", x.lasts(1, 7, 9999), 2);
        int[][] cant = {{2, 1, 1}, {6, 1, 1}, {-1, 1, 1}, {0, -1, 1}, {0, 1000, 1}, {0, 1, 0}, {0, 1, 10000}};
        for (int[] c : cant) {
            due(33, "lasts(" + c[0] + ", " + c[1] + ", " + c[2] + ")", x.lasts(c[0], c[1], c[2]), -2);
        }
    }

    private static void trials() {
        HeavyThings x = new HeavyThings();
        x.make(0, 3);
        x.come(0, 5, 2);
        x.come(0, 700, 1);
        // 8 gets a COUNTER; for 0 goes 700, for 28 goes 5, for 5 goes 8, for 15 goes 5, for 12 goes 0
        due(34, "trial(0, 0, 4, 4), 5 went and is there again", x.trial(0, 0, 4, 4), 1);
        int[] want = {5, 3, 4, 13, 0};
        for (int what = 0; what < 5; what++) {
            due(34, "trial(0, 0, 6, " + what + ")", x.trial(0, 0, 6, what), want[what]);
        }
        dueOrder(34, x, 0, "700:1/1 5:2/2 absent 0 total 3");
        due(34, "stream(0, 0, 6)", x.stream(0, 0, 6), want[0]);
        due(34, "has(0, 3)", x.has(0, 3), want[2]);
        x.halving(0, 1);
        due(34, "trial(0, 0, 1, 3), HALVED", x.trial(0, 0, 1, 3), 7);
        int[][] cant = {{1, 0, 1, 0}, {6, 0, 1, 0}, {0, -1, 1, 0}, {0, 0, 0, 0}, {0, 0, 101, 0}, {0, 0, 1, 5}, {0, 0, 1, -1}};
        for (int[] c : cant) {
            due(34, "trial(" + c[0] + ", " + c[1] + ", " + c[2] + ", " + c[3] + ")", x.trial(c[0], c[1], c[2], c[3]), -2);
        }
        loaded(x, 1, 2, MOST - 14, 0, 0);
        due(34, "trial(1, 0, 3, 0)", x.trial(1, 0, 3, 0), -3);
        due(34, "trial(1, 0, 3, 5)", x.trial(1, 0, 3, 5), -2);
        due(34, "trial(1, 0, 2, 3)", x.trial(1, 0, 2, 3), MOST - 9);
    }

    private static void onlyGroup() {
        HeavyThings x = filled();
        x.keep(0);
        due(35, "only(0, 2, 0)", x.only(0, 2, 0), 1);
        dueOrder(35, x, 0, "4:4/1 2:5/2 absent 5 total 14");
        due(35, "has(0, 7), not GONE", x.has(0, 7), 2);
        due(35, "TRUTH of 1", x.bounds(0, 1, 3), 5);
        due(35, "only(0, 1, 0)", x.only(0, 1, 0), 0);
        due(35, "only(0, 100, 4)", x.only(0, 100, 4), 1);
        dueOrder(35, x, 0, "4:4/1 absent 5 total 14");
        due(35, "only(0, 7, 0)", x.only(0, 7, 0), 1);
        dueOrder(35, x, 0, "absent 5 total 14");
        int[][] cant = {{1, 1, 0}, {6, 1, 0}, {0, 0, 0}, {0, 101, 0}, {0, 2, 2}, {0, 2, -1}};
        for (int[] c : cant) {
            due(35, "only(" + c[0] + ", " + c[1] + ", " + c[2] + ")", x.only(c[0], c[1], c[2]), -2);
        }
    }

    // ---- the truth

    private static void offs() {
        HeavyThings x = filled();
        int[] want = {3, 3, 1, 1};
        for (int what = 0; what < 4; what++) {
            due(36, "off(0, " + what + ")", x.off(0, what), want[what]);
        }
        due(36, "off(0, 4)", x.off(0, 4), NONE);
        due(36, "off(0, -1)", x.off(0, -1), NONE);
        due(36, "off(1, 0)", x.off(1, 0), NONE);
        x.make(1, 3);
        x.come(1, 7, 5);
        due(36, "off(1, 2), all", x.off(1, 2), 1000);
        // COUNTERS 8, 9, but only 9 has a TRUTH
        loaded(x, 2, 3, 30, 1, 0, 8, 6, 0, 9, 9, 2);
        due(36, "off(2, 0)", x.off(2, 0), 7);
        due(36, "off(2, 1)", x.off(2, 1), 0);
        due(36, "off(2, 2)", x.off(2, 2), 0);
        due(36, "off(2, 3), of all, if these are fewer", x.off(2, 3), 0);
        x.make(3, 4);
        x.come(3, 4, 2);
        x.come(3, 5, 2);
        x.come(3, 6, 2);
        x.come(3, 7, 9);
        x.keep(0);
        x.only(3, 5, 2);
        due(36, "off(3, 3), the first alone", x.off(3, 3), 0);
        x.back(0);
        x.only(3, 2, 1);
        due(36, "off(3, 3), of like ones the lesser", x.off(3, 3), 1);
        x.back(0);
        x.resize(3, 2);
        due(36, "off(3, 3), 6 and 7 have COUNTERS", x.off(3, 3), 1);
        x.come(2, 9, 1);
        x.only(2, 10, 8);
        due(36, "off(2, 3)", x.off(2, 3), 1);
        due(36, "off(2, 1)", x.off(2, 1), 3);
    }

    private static void truests() {
        HeavyThings x = filled();
        int[][] want = {{1, 5}, {2, 5}, {3, 3}, {4, 1}, {NONE, NONE}};
        for (int k = 0; k < 5; k++) {
            due(37, "truest(0, " + k + ", 0)", x.truest(0, k, 0), want[k][0]);
            due(37, "truest(0, " + k + ", 1)", x.truest(0, k, 1), want[k][1]);
        }
        due(37, "truest(0, 0, 2)", x.truest(0, 0, 2), NONE);
        due(37, "truest(0, 0, -1)", x.truest(0, 0, -1), NONE);
        due(37, "truest(0, -1, 0)", x.truest(0, -1, 0), NONE);
        due(37, "truest(1, 0, 0)", x.truest(1, 0, 0), NONE);
        x.come(0, 999, 9999);
        x.come(0, 0, 5);
        due(37, "truest(0, 0, 0)", x.truest(0, 0, 0), 999);
        due(37, "truest(0, 1, 0)", x.truest(0, 1, 0), 0);
        due(37, "truest(0, 2, 0)", x.truest(0, 2, 0), 1);
    }

    private static void judges() {
        HeavyThings x = filled();
        int[][] want = {{1, 4, 0, 0}, {71, 4, 0, 0}, {72, 3, 0, 0}, {214, 3, 0, 0}, {215, 2, 0, 0}, {357, 2, 0, 0}, {358, 0, 0, 0}, {1000, 0, 0, 0}};
        for (int[] w : want) {
            for (int what = 0; what < 3; what++) {
                due(38, "judge(0, " + w[0] + ", " + what + ")", x.judge(0, w[0], what), w[1 + what]);
            }
        }
        due(38, "judge(0, 0, 0)", x.judge(0, 0, 0), NONE);
        due(38, "judge(0, 1001, 0)", x.judge(0, 1001, 0), NONE);
        due(38, "judge(0, 1, 3)", x.judge(0, 1, 3), NONE);
        due(38, "judge(0, 1, -1)", x.judge(0, 1, -1), NONE);
        due(38, "judge(1, 1, 0)", x.judge(1, 1, 0), NONE);
    }

    // ---- the tree

    /** LOWS 10: 4, 11: 3, 15: 2, 120: 3, 999: 5; TOTAL 20. */
    private static HeavyThings planted() {
        return loaded(new HeavyThings(), 0, 6, 20, 0, 0, 15, 2, 2, 11, 3, 3, 120, 3, 3, 10, 6, 4, 999, 9, 5);
    }

    private static void nodes() {
        HeavyThings x = planted();
        int[][] want = {{0, 0, 17, 20, 5}, {1, 0, 9, 12, 3}, {1, 1, 3, 6, 1}, {1, 9, 5, 8, 1}, {1, 5, 0, 3, 0}, {2, 1, 9, 12, 3},
            {2, 12, 3, 6, 1}, {2, 99, 5, 8, 1}, {3, 10, 4, 7, 1}, {3, 999, 5, 8, 1}, {3, 0, 0, 3, 0}};
        for (int[] w : want) {
            for (int what = 0; what < 3; what++) {
                due(39, "node(0, " + w[0] + ", " + w[1] + ", " + what + ")", x.node(0, w[0], w[1], what), w[2 + what]);
            }
        }
        int[][] cant = {{0, 1}, {1, 10}, {2, 100}, {3, 1000}, {0, -1}, {3, -1}, {4, 0}, {-1, 0}};
        for (int[] c : cant) {
            due(39, "node(0, " + c[0] + ", " + c[1] + ", 0)", x.node(0, c[0], c[1], 0), NONE);
            due(40, "own(0, " + c[0] + ", " + c[1] + ", 1)", x.own(0, c[0], c[1], 1), NONE);
        }
        due(39, "node(0, 0, 0, 3)", x.node(0, 0, 0, 3), NONE);
        due(39, "node(0, 0, 0, -1)", x.node(0, 0, 0, -1), NONE);
        due(39, "node(1, 0, 0, 0)", x.node(1, 0, 0, 0), NONE);
    }

    private static void owns() {
        HeavyThings x = planted();
        // by 200 (4 of 20): 10 and 999 lead; 11 and 15 make the ten 1 lead by 5; 120 is left to the top: 3
        int[][] want = {{3, 10, 200, 4}, {3, 0, 200, 0}, {2, 1, 200, 5}, {1, 0, 200, 0}, {2, 12, 200, 3}, {1, 1, 200, 3}, {0, 0, 200, 3},
            {2, 99, 200, 0}, {2, 1, 201, 9}, {2, 1, 251, 9}, {1, 0, 251, 0}, {0, 0, 251, 8}, {0, 0, 1000, 17}, {0, 0, 1, 0}};
        for (int[] w : want) {
            due(40, "own(0, " + w[0] + ", " + w[1] + ", " + w[2] + ")", x.own(0, w[0], w[1], w[2]), w[3]);
        }
        due(40, "own(0, 0, 0, 0)", x.own(0, 0, 0, 0), NONE);
        due(40, "own(0, 0, 0, 1001)", x.own(0, 0, 0, 1001), NONE);
        due(40, "own(1, 0, 0, 1)", x.own(1, 0, 0, 1), NONE);
    }

    private static void leadings() {
        HeavyThings x = planted();
        int[][] want = {{3, 200, NONE, 2}, {3, 200, 0, 10}, {3, 200, 1, 999}, {3, 200, 2, NONE}, {3, 1, NONE, 5}, {2, 200, NONE, 1},
            {2, 200, 0, 1}, {1, 200, NONE, 0}, {0, 200, NONE, 0}, {0, 150, NONE, 0}, {1, 151, NONE, 0}, {0, 151, NONE, 0},
            {0, 251, NONE, 1}, {0, 251, 0, 0}, {0, 850, NONE, 1}, {0, 851, NONE, 0}};
        for (int[] w : want) {
            due(41, "leading(0, " + w[0] + ", " + w[1] + ", " + w[2] + ")", x.leading(0, w[0], w[1], w[2]), w[3]);
        }
        due(41, "leading(0, 4, 1, NONE)", x.leading(0, 4, 1, NONE), NONE);
        due(41, "leading(0, -1, 1, NONE)", x.leading(0, -1, 1, NONE), NONE);
        due(41, "leading(0, 3, 0, NONE)", x.leading(0, 3, 0, NONE), NONE);
        due(41, "leading(0, 3, 1001, NONE)", x.leading(0, 3, 1001, NONE), NONE);
        due(41, "leading(0, 3, 1, -2)", x.leading(0, 3, 1, -2), NONE);
        due(41, "leading(1, 3, 1, NONE)", x.leading(1, 3, 1, NONE), NONE);
        x.make(1, 1);
        due(41, "leading(1, 0, 1, NONE), OWN must be above 0", x.leading(1, 0, 1, NONE), 0);
    }

    // ---- windows

    private static void windows() {
        HeavyThings x = new HeavyThings();
        int[][] cant = {{-1, 1, 1}, {2, 1, 1}, {0, 0, 1}, {0, 25, 1}, {0, 1, 0}, {0, 1, 7}};
        for (int[] c : cant) {
            due(42, "window(" + c[0] + ", " + c[1] + ", " + c[2] + ")", x.window(c[0], c[1], c[2]), -2);
        }
        due(42, "pane(0, 0, 3)", x.pane(0, 0, 3), NONE);
        due(42, "window(0, 24, 6)", x.window(0, 24, 6), 0);
        due(42, "window(1, 1, 1)", x.window(1, 1, 1), 0);
        x.flow(0, 5, 5);
        x.turn(0);
        x.flow(0, 6, 6);
        due(42, "window(0, 2, 3)", x.window(0, 2, 3), 1);
        due(42, "pane(0, 0, 3)", x.pane(0, 0, 3), 1);
        due(42, "pane(0, 0, 0)", x.pane(0, 0, 0), 0);
        x.gather(0, 0, 1);
        due(42, "has(0, 0)", x.has(0, 0), 2);
        due(42, "has(0, 6)", x.has(0, 6), 0);
    }

    private static void flows() {
        HeavyThings x = new HeavyThings();
        due(43, "flow(0, 5, 1), not opened", x.flow(0, 5, 1), -2);
        x.window(0, 2, 2);
        due(43, "flow(0, 5, 3)", x.flow(0, 5, 3), 1);
        due(43, "flow(0, 6, 9999)", x.flow(0, 6, 9999), 1);
        due(43, "flow(0, 5, 1)", x.flow(0, 5, 1), 0);
        due(43, "flow(0, 7, 1)", x.flow(0, 7, 1), 2);
        int[][] cant = {{1, 5, 1}, {2, 5, 1}, {-1, 5, 1}, {0, -1, 1}, {0, 1000, 1}, {0, 5, 0}, {0, 5, 10000}};
        for (int[] c : cant) {
            due(43, "flow(" + c[0] + ", " + c[1] + ", " + c[2] + ")", x.flow(c[0], c[1], c[2]), -2);
        }
        x.gather(0, 0, 1);
        dueOrder(43, x, 0, "7:5/1 6:9999/9999 absent 4 total 10004");
    }

    private static void turns() {
        HeavyThings x = new HeavyThings();
        due(44, "turn(0), not opened", x.turn(0), -2);
        due(44, "turn(2)", x.turn(2), -2);
        due(44, "turn(-1)", x.turn(-1), -2);
        x.window(0, 2, 3);
        int[] many = {2, 3, 3, 3};
        for (int i = 0; i < 4; i++) {
            x.flow(0, i, i + 1);
            due(44, "turn(0)", x.turn(0), many[i]);
        }
        due(44, "pane(0, 0, 0)", x.pane(0, 0, 0), 0);
        due(44, "pane(0, 1, 0)", x.pane(0, 1, 0), 4);
        due(44, "pane(0, 2, 0)", x.pane(0, 2, 0), 3);
        x.window(1, 1, 1);
        x.flow(1, 5, 5);
        due(44, "turn(1)", x.turn(1), 1);
        due(44, "pane(1, 0, 0)", x.pane(1, 0, 0), 0);
    }

    private static void panes() {
        HeavyThings x = new HeavyThings();
        due(45, "pane(0, 0, 3), not opened", x.pane(0, 0, 3), NONE);
        x.window(0, 2, 3);
        x.flow(0, 1, 3);
        x.flow(0, 2, 4);
        x.flow(0, 3, 1);
        x.turn(0);
        x.flow(0, 9, 2);
        int[][] want = {{2, 1, 0, 2}, {8, 2, 3, 2}};
        for (int k = 0; k < 2; k++) {
            for (int what = 0; what < 4; what++) {
                due(45, "pane(0, " + k + ", " + what + ")", x.pane(0, k, what), want[k][what]);
            }
            due(45, "pane(0, " + k + ", 4)", x.pane(0, k, 4), NONE);
            due(45, "pane(0, " + k + ", -1)", x.pane(0, k, -1), NONE);
        }
        due(45, "pane(0, 2, 0)", x.pane(0, 2, 0), NONE);
        due(45, "pane(0, -1, 0)", x.pane(0, -1, 0), NONE);
        due(45, "pane(0, -1, 3), whatever k", x.pane(0, -1, 3), 2);
        due(45, "pane(0, 99, 3), whatever k", x.pane(0, 99, 3), 2);
        due(45, "pane(2, 0, 3)", x.pane(2, 0, 3), NONE);
        due(45, "pane(-1, 0, 3)", x.pane(-1, 0, 3), NONE);
    }

    private static void gathers() {
        HeavyThings x = filled();
        x.halving(0, 50);
        x.window(0, 2, 3);
        x.flow(0, 1, 3);
        x.flow(0, 2, 4);
        x.flow(0, 3, 1);
        x.turn(0);
        x.flow(0, 9, 2);
        x.flow(0, 8, 2);
        due(46, "gather(0, 0, 1), in the PANE's ORDER", x.gather(0, 0, 1), 2);
        dueOrder(46, x, 0, "9:2/2 8:2/2 absent 0 total 4");
        due(46, "has(0, 4)", x.has(0, 4), 0);
        due(46, "has(0, 7)", x.has(0, 7), 0);
        due(46, "TRUTH of 1", x.bounds(0, 1, 3), 0);
        due(46, "gather(5, 0, 2), made", x.gather(5, 0, 2), 2);
        // 9: 2 + 3, 8: 2 + 3, 2: 4, 3: 4; ABSENT 3, then 4
        dueOrder(46, x, 5, "8:5/2 9:5/2 absent 4 total 12");
        due(46, "TRUTH of 2", x.bounds(5, 2, 3), 4);
        x.turn(0);
        x.flow(0, 3, 1);
        due(46, "gather(1, 0, 3)", x.gather(1, 0, 3), 2);
        // the open one with the next: 3: 1, 8: 2, 9: 2, ABSENT 0: 8, 9 stay, ABSENT 1; with the oldest: 8: 5, 9: 5, 2: 5, 3: 5; ABSENT 4
        dueOrder(46, x, 1, "2:5/4 3:5/1 absent 5 total 13");
        due(46, "pane(0, 2, 0), the PANES stay", x.pane(0, 2, 0), 8);
        x.turn(0);
        x.turn(0);
        x.turn(0);
        x.flow(0, 1, 1);
        x.flow(0, 2, 1);
        x.flow(0, 3, 1);
        due(46, "gather(1, 0, 1)", x.gather(1, 0, 1), 2);
        due(46, "has(1, 7), none is GONE", x.has(1, 7), 0);
        due(46, "gone(1, 0, 0)", x.gone(1, 0, 0), NONE);
        int[][] cant = {{-1, 0, 1}, {6, 0, 1}, {0, 1, 1}, {0, 2, 1}, {0, -1, 1}, {0, 0, 0}, {0, 0, 4}, {0, 0, -1}};
        for (int[] c : cant) {
            due(46, "gather(" + c[0] + ", " + c[1] + ", " + c[2] + ")", x.gather(c[0], c[1], c[2]), -2);
        }
    }

    // ---- written, read

    private static void writes() {
        HeavyThings x = filled();
        x.halving(0, 0x01020304);
        due(47, "write(1)", x.write(1), -2);
        due(47, "write(6)", x.write(6), -2);
        due(47, "octet(0)", x.octet(0), NONE);
        due(47, "write(0)", x.write(0), 45);
        lay(3, 14, 3, 0x01020304, 4, 4, 1, 1, 5, 5, 2, 5, 2);
        for (int i = 0; i < 45; i++) {
            due(48, "octet(" + i + ")", x.octet(i), OCTETS[i]);
        }
        due(48, "octet(45)", x.octet(45), NONE);
        due(48, "octet(-1)", x.octet(-1), NONE);
        x.make(2, 24);
        due(47, "write(2)", x.write(2), 15);
        due(48, "octet(0), of the latest", x.octet(0), 24);
        due(48, "octet(15)", x.octet(15), NONE);
        due(47, "write(1), refused", x.write(1), -2);
        due(48, "octet(0), as it was", x.octet(0), 24);
        x.drop(2);
        due(48, "octet(0), as it was", x.octet(0), 24);
        for (int t = 0; t < 24; t++) {
            x.make(2, 24);
        }
        for (int t = 976; t < 1000; t++) {
            x.come(2, t, 9999);
        }
        due(47, "write(2), full", x.write(2), 255);
        due(48, "octet(14)", x.octet(14), 976 >> 8);
        due(48, "octet(15)", x.octet(15), 976 & 255);
    }

    private static void feeds() {
        HeavyThings x = new HeavyThings();
        for (int i = 1; i <= 25; i++) {
            due(49, "feed()", x.feed(i, -1, 0x01020304), 12 * i);
        }
        due(49, "feed(), more than 300", x.feed(0, 0, 0), NONE);
        due(50, "end(301)", x.end(301), false);
        due(50, "end(300), none came", x.end(300), true);
        due(50, "end(-1)", x.end(-1), false);
        due(50, "end(289)", x.end(289), true);
        due(49, "feed(), more than 300", x.feed(0, 0, 0), NONE);
        due(50, "end(290)", x.end(290), false);
        due(50, "end(288)", x.end(288), true);
        due(49, "feed()", x.feed(0, 0, 0), 300);
        due(50, "end(0)", x.end(0), true);
        due(50, "end(1)", x.end(1), false);
        due(49, "feed()", x.feed(0, 0, 0), 12);
    }

    private static void reads() {
        HeavyThings x = filled();
        lay(3, 20, 9, 77, 7, 4, 0, 999, 4, 4, 0, 20, 16);
        feedLaid(x);
        due(51, "read(-1)", x.read(-1), -2);
        due(51, "read(6)", x.read(6), -2);
        due(52, "fault(0), ahead of any", x.fault(0), 0);
        due(51, "the tape stays", x.end(45), true);
        due(51, "read(0)", x.read(0), 3);
        dueOrder(51, x, 0, "7:4/0 999:4/4 0:20/16 absent 9 total 20");
        due(51, "has(0, 0)", x.has(0, 0), 3);
        due(51, "has(0, 4)", x.has(0, 4), 77);
        due(51, "has(0, 6), TRUTH is LOW", x.has(0, 6), 2);
        due(51, "TRUTH of 0", x.bounds(0, 0, 3), 16);
        due(51, "TRUTH of 1", x.bounds(0, 1, 3), 0);
        due(51, "has(0, 7)", x.has(0, 7), 0);
        due(51, "has(0, 8)", x.has(0, 8), 0);
        due(51, "gone(0, 0, 0)", x.gone(0, 0, 0), NONE);
        due(51, "the tape goes", x.end(1), false);
        due(52, "fault(0)", x.fault(0), 0);
        due(52, "fault(1)", x.fault(1), NONE);
        x.write(0);
        due(51, "what was read, WRITTEN", x.octet(44), OCTETS[44]);
        due(51, "read(0), nothing on the tape", x.read(0), NONE);
        dueOrder(51, x, 0, "7:4/0 999:4/4 0:20/16 absent 9 total 20");
        due(51, "read(5), not there", x.read(5), NONE);
        due(51, "has(5, 0)", x.has(5, 0), NONE);
    }

    private static void dueFault(HeavyThings x, int fault, int place) {
        feedLaid(x);
        due(51, "read(0) with FAULT " + fault, x.read(0), NONE);
        due(52, "fault(0)", x.fault(0), fault);
        due(52, "fault(1) of FAULT " + fault, x.fault(1), place);
        due(51, "the tape goes", x.end(1), false);
        dueOrder(51, x, 0, "4:4/1 1:5/5 2:5/2 absent 3 total 14");
    }

    private static void faultsOfHead() {
        HeavyThings x = filled();
        at = 0;
        dueFault(x, 1, 0);
        lay(3, 14, 3, 0);
        at = 14;
        dueFault(x, 1, 14);
        lay(3, 14, 3, 0);
        at = 16;
        dueFault(x, 1, 16);
        lay(0, 14, 3, 0, 4, 4, 1);
        at = 24;
        dueFault(x, 1, 24);
        lay(0, -1, 3, 0, 4, 4, 1);
        dueFault(x, 2, 0);
        lay(25, 14, 3, 0);
        dueFault(x, 2, 0);
        lay(255, 14, 3, 0);
        dueFault(x, 2, 0);
        lay(1, -1, 3, 0, 4, 4, 1, 5, 5, 1);
        dueFault(x, 3, 1);
        lay(1, MOST + 1, -1, -1);
        dueFault(x, 4, 2);
        lay(1, -1, -1, -1);
        dueFault(x, 4, 2);
        lay(1, 14, 15, -1);
        dueFault(x, 4, 6);
        lay(1, 14, -1, MOST + 1);
        dueFault(x, 4, 6);
        lay(1, 14, 14, MOST + 1, 1000, 1, 1);
        dueFault(x, 4, 10);
        lay(1, 14, 14, -1);
        dueFault(x, 4, 10);
        x.read(6);
        due(52, "fault(0), of the latest that was not -2", x.fault(0), 4);
        due(52, "fault(1)", x.fault(1), 10);
        due(52, "fault(2)", x.fault(2), NONE);
        due(52, "fault(-1)", x.fault(-1), NONE);
        loaded(x, 1, 24, MOST, MOST, MOST);
        due(52, "fault(0), none", x.fault(0), 0);
        due(52, "fault(1), none", x.fault(1), NONE);
    }

    private static void faultsOfCounters() {
        HeavyThings x = filled();
        lay(3, 14, 3, 0, 1000, 0, 9);
        dueFault(x, 5, 14);
        lay(3, 14, 3, 0, 65535, 4, 1);
        dueFault(x, 5, 14);
        lay(3, 14, 3, 0, 4, 4, 1, 5, 5, 1, 4, 3, 9);
        dueFault(x, 5, 34);
        lay(3, 14, 3, 0, 4, 4, 1, 5, 3, 9);
        dueFault(x, 6, 24);
        lay(3, 14, 3, 0, 4, 0, 0);
        dueFault(x, 6, 14);
        lay(3, 14, 3, 0, 4, -1, 0);
        dueFault(x, 6, 14);
        lay(3, 14, 3, 0, 4, 15, 16);
        dueFault(x, 6, 14);
        lay(3, 14, 3, 0, 4, 14, 15);
        dueFault(x, 7, 14);
        lay(3, 14, 3, 0, 4, 4, 1, 5, 14, -1);
        dueFault(x, 7, 24);
        lay(3, 14, 3, 0, 4, 8, 7, 5, 8, 7, 6, 8, 1);
        dueFault(x, 8, 34);
        lay(3, 14, 3, 0, 4, 8, 8, 5, 8, 7, 1000, 8, 1);
        dueFault(x, 8, 24);
        lay(3, 14, 3, 0, 4, 8, 7, 5, 8, 7);
        OCTETS[34] = (OCTETS[34] + 1) % 251;
        dueFault(x, 9, 34);
        OCTETS[34] = 255;
        dueFault(x, 9, 34);
        lay(3, 14, 3, 0);
        OCTETS[14] ^= 1;
        dueFault(x, 9, 14);
        loaded(x, 1, 24, MOST, 0, 0, 4, MOST, 500000000, 5, MOST, 500000000);
    }

    // ---- images

    private static void images() {
        HeavyThings x = filled();
        x.make(3, 2);
        x.window(0, 2, 2);
        x.flow(0, 5, 5);
        due(53, "keep(0)", x.keep(0), 2);
        due(53, "keep(-1)", x.keep(-1), -2);
        due(53, "keep(2)", x.keep(2), -2);
        due(54, "back(1), nothing was kept", x.back(1), -3);
        due(54, "back(2)", x.back(2), -2);
        due(54, "back(-1)", x.back(-1), -2);
        x.come(0, 77, 5);
        x.halving(0, 99);
        x.drop(3);
        x.make(4, 1);
        x.make(5, 1);
        x.flow(0, 5, 5);
        due(53, "keep(1)", x.keep(1), 3);
        due(54, "back(0)", x.back(0), 2);
        dueOrder(54, x, 0, "4:4/1 1:5/5 2:5/2 absent 3 total 14");
        due(54, "has(0, 4)", x.has(0, 4), 0);
        due(54, "has(0, 7)", x.has(0, 7), 2);
        due(54, "gone(0, 0, 0)", x.gone(0, 0, 0), 3);
        due(54, "TRUTH of 77", x.bounds(0, 77, 3), 0);
        due(54, "has(3, 0)", x.has(3, 0), 2);
        due(54, "has(4, 0)", x.has(4, 0), NONE);
        due(54, "pane(0, 0, 0), no WINDOWS", x.pane(0, 0, 0), 10);
        x.come(0, 1, 1);
        due(54, "back(0), once more", x.back(0), 2);
        dueOrder(54, x, 0, "4:4/1 1:5/5 2:5/2 absent 3 total 14");
        due(54, "back(1)", x.back(1), 3);
        dueOrder(54, x, 0, "1:5/5 2:5/2 77:9/5 absent 4 total 19");
        due(54, "has(3, 0)", x.has(3, 0), NONE);
        due(53, "keep(0), in place of what was kept", x.keep(0), 3);
        x.make(3, 1);
        due(54, "back(0)", x.back(0), 3);
        due(54, "has(3, 0)", x.has(3, 0), NONE);
        HeavyThings none = new HeavyThings();
        none.keep(1);
        none.make(0, 1);
        due(54, "back(1), none were there", none.back(1), 0);
        due(54, "has(0, 0)", none.has(0, 0), NONE);
    }

    public static void main(String[] args) {
        newObject();
        makeOne();
        dropOne();
        hasWhat();
        comes();
        streams();
        halves();
        setsHalving();
        resizes();
        merges();
        copies();
        counters();
        buckets();
        boundsOf();
        goneOnes();
        tops();
        sures();
        opens();
        heavies();
        fewests();
        groups();
        victims();
        woulds();
        needs();
        mergedOnPaper();
        risenFrom();
        roseFrom();
        alikeTops();
        places();
        aparts();
        exacts();
        clears();
        lastsTill();
        trials();
        onlyGroup();
        offs();
        truests();
        judges();
        nodes();
        owns();
        leadings();
        windows();
        flows();
        turns();
        panes();
        gathers();
        writes();
        feeds();
        reads();
        faultsOfHead();
        faultsOfCounters();
        images();
        System.out.println(asked + " answers asked, " + wrong + " not as due");
        if (wrong != 0) {
            System.exit(1);
        }
    }
}
