import java.util.Arrays;

/**
 * Counters of what comes most often, few of them for many things.
 *
 * <p>The words in capitals are those of the document's section "Terms". All rows are made with the
 * object and used again: no call makes a new one.
 */
public final class HeavyThings {
    public static final int NONE = -1;

    private static final int CANT = -2;
    private static final int REFUSED = -3;
    private static final int NO_RISE = -2000000000;

    private static final int THINGS = 1000;
    private static final int SUMMARIES = 6;
    private static final int WINDOWS = 2;
    private static final int IMAGES = 2;
    private static final int MOST_ROOM = 24;
    private static final int MOST_PANES = 6;
    private static final int MOST_TOTAL = 1000000000;
    private static final int MOST_WEIGHT = 9999;
    private static final int MOST_NEED = 1000000;
    private static final int MOST_STREAM = 100;
    private static final int MOST_COMING = 100;
    private static final int MOST_GROUPS = 100;
    private static final int GONE_TOLD = 20;
    private static final int STREAM_WEIGHT = 5;
    private static final int STREAM_THINGS = 40;
    private static final int BRANCHES = 10;
    private static final int LEAVES = 3;

    private static final int COUNTED = 0;
    private static final int GOT_ONE = 1;
    private static final int ONE_WENT = 2;

    private static final int MOST_OCTETS = 300;
    private static final int HEAD_OCTETS = 14;
    private static final int COUNTER_OCTETS = 10;

    private final Shelf shelf = new Shelf();
    private final Shelf[] images = new Shelf[IMAGES];
    private final Window[] windows = new Window[WINDOWS];
    private final Octets written = new Octets();
    private final Octets tape = new Octets();
    private final Reader reader = new Reader();

    private final Summary paper = new Summary();
    private final Listing list = new Listing();
    private final Draws draws = new Draws();
    private final Tree tree = new Tree();
    private final int[] highs = new int[THINGS];
    private final int[] lows = new int[THINGS];

    public HeavyThings() {
        for (int k = 0; k < IMAGES; k++) {
            images[k] = new Shelf();
        }
        for (int v = 0; v < WINDOWS; v++) {
            windows[v] = new Window();
        }
    }

    // ---- summaries

    public int make(int s, int room) {
        if (!isSummary(s) || !isRoom(room)) {
            return CANT;
        }
        Summary one = shelf.row[s];
        int was = one.there ? 1 : 0;
        one.begin(room);
        return was;
    }

    public int drop(int s) {
        Summary one = standing(s);
        if (one == null) {
            return CANT;
        }
        one.there = false;
        return shelf.number();
    }

    public int has(int s, int what) {
        Summary one = standing(s);
        if (one == null) {
            return NONE;
        }
        switch (what) {
            case 0: return one.room;
            case 1: return one.size;
            case 2: return one.total;
            case 3: return one.absent;
            case 4: return one.halveAt;
            case 5: return one.buckets();
            case 6: return one.truthsAbove(0);
            case 7: return one.wentNumber;
            case 8: return one.halvedTimes;
            case 9: return one.lowsTogether(1, 0);
            case 10: return one.countsTogether(1, 0);
            default: return NONE;
        }
    }

    public int come(int s, int thing, int weight) {
        Summary one = standing(s);
        if (one == null) {
            return CANT;
        }
        return takeIn(one, thing, weight);
    }

    public int stream(int s, int seed, int n) {
        Summary one = standing(s);
        if (one == null || !isStream(seed, n)) {
            return CANT;
        }
        if (!hasSpace(one, n * STREAM_WEIGHT)) {
            return REFUSED;
        }
        return draws.pour(one, seed, n);
    }

    public int halve(int s) {
        Summary one = standing(s);
        return one == null ? CANT : one.halveAll();
    }

    public int halving(int s, int h) {
        Summary one = standing(s);
        if (one == null || h < 0 || h > MOST_TOTAL) {
            return CANT;
        }
        int was = one.halveAt;
        one.halveAt = h;
        return was;
    }

    public int resize(int s, int room) {
        Summary one = standing(s);
        if (one == null || !isRoom(room)) {
            return CANT;
        }
        return one.keepLast(room);
    }

    public int merge(int s, int other) {
        Summary one = standing(s);
        Summary two = standing(other);
        if (one == null || two == null || s == other) {
            return CANT;
        }
        if (!hasSpace(one, two.total)) {
            return REFUSED;
        }
        return mix(one, two);
    }

    public int copy(int s, int other) {
        Summary two = standing(other);
        if (!isSummary(s) || two == null || s == other) {
            return CANT;
        }
        shelf.row[s].become(two);
        return two.size;
    }

    // ---- counters

    public int counter(int s, int k, int what) {
        Summary one = standing(s);
        if (one == null || k < 0 || k >= one.size) {
            return NONE;
        }
        switch (what) {
            case 0: return one.thing[k];
            case 1: return one.count[k];
            case 2: return one.low[k];
            case 3: return one.count[k] - one.low[k];
            case 4: return one.bucketOf(k);
            default: return NONE;
        }
    }

    public int bucket(int s, int k, int what) {
        Summary one = standing(s);
        if (one == null || k < 0) {
            return NONE;
        }
        int first = one.firstOfBucket(k);
        if (first == NONE) {
            return NONE;
        }
        int behind = one.behindCount(one.count[first]);
        switch (what) {
            case 0: return one.count[first];
            case 1: return behind - first;
            case 2: return one.thing[first];
            case 3: return one.thing[behind - 1];
            default: return NONE;
        }
    }

    public int bounds(int s, int thing, int what) {
        Summary one = standing(s);
        if (one == null || !isThing(thing)) {
            return NONE;
        }
        switch (what) {
            case 0: return one.highOf(thing);
            case 1: return one.lowOf(thing);
            case 2: return one.find(thing) == NONE ? 0 : 1;
            case 3: return one.truth[thing];
            case 4: return one.fallPlace(thing);
            default: return NONE;
        }
    }

    public int gone(int s, int k, int what) {
        Summary one = standing(s);
        if (one == null || k < 0 || k >= GONE_TOLD || k >= one.wentNumber) {
            return NONE;
        }
        int at = (one.wentNumber - 1 - k) % GONE_TOLD;
        switch (what) {
            case 0: return one.wentThing[at];
            case 1: return one.wentCount[at];
            case 2: return one.wentFor[at];
            default: return NONE;
        }
    }

    // ---- lists

    public int top(int s, int k, int i) {
        Summary one = standing(s);
        if (one == null || !isTop(k)) {
            return NONE;
        }
        listFall(one);
        list.cutTo(k);
        return list.tell(i);
    }

    public int sure(int s, int k, boolean possible, int i) {
        Summary one = standing(s);
        if (one == null || !isTop(k)) {
            return NONE;
        }
        list.empty();
        for (int p = one.size - 1; p >= 0; p--) {
            int rivals = possible ? one.surelyOftener(one.thing[p]) : one.asOftenPerhaps(one.thing[p]);
            if (rivals < k) {
                list.rank(one.thing[p], one.count[p], one.low[p]);
            }
        }
        return list.tell(i);
    }

    public int open(int s, int k) {
        Summary one = standing(s);
        if (one == null || !isTop(k)) {
            return NONE;
        }
        return one.lowsAbove(one.absent) < k ? 1 : 0;
    }

    public int heavy(int s, int f, boolean possible, int i) {
        Summary one = standing(s);
        if (one == null || !isShare(f)) {
            return NONE;
        }
        list.empty();
        for (int p = one.size - 1; p >= 0; p--) {
            if (reaches(possible ? one.count[p] : one.low[p], f, one.total)) {
                list.rank(one.thing[p], one.count[p], one.low[p]);
            }
        }
        return list.tell(i);
    }

    public int fewest(int s, int f) {
        Summary one = standing(s);
        if (one == null || (f != 0 && !isShare(f))) {
            return NONE;
        }
        listFall(one);
        long asked = (long) f * one.total;
        long together = 0;
        for (int i = 0; i < list.size; i++) {
            if (1000 * together >= asked) {
                return i;
            }
            together += list.low[i];
        }
        return 1000 * together >= asked ? list.size : NONE;
    }

    public int group(int s, int m, int r, int what) {
        Summary one = standing(s);
        if (one == null || !isGroup(m, r)) {
            return NONE;
        }
        switch (what) {
            case 0: return one.countersOf(m, r);
            case 1: return one.countsTogether(m, r);
            case 2: return one.lowsTogether(m, r);
            case 3: return one.truthsTogether(m, r);
            default: return NONE;
        }
    }

    // ---- what would be

    public int victim(int s) {
        Summary one = standing(s);
        if (one == null) {
            return CANT;
        }
        return one.isFull() ? one.thing[0] : NONE;
    }

    public int would(int s, int thing, int weight, int what) {
        Summary one = standing(s);
        if (one == null || !isThing(thing) || !isWeight(weight) || what < 0 || what > 4) {
            return CANT;
        }
        if (!hasSpace(one, weight)) {
            return REFUSED;
        }
        paper.become(one);
        paper.arrive(thing, weight);
        if (what == 3) {
            return paper.absent;
        }
        if (what == 4) {
            return paper.total;
        }
        int at = paper.find(thing);
        if (at == NONE) {
            return NONE;
        }
        return what == 0 ? paper.count[at] : what == 1 ? paper.low[at] : paper.fallPlace(thing);
    }

    public int need(int s, int thing, int k) {
        Summary one = standing(s);
        if (one == null || !isThing(thing) || !isTop(k)) {
            return CANT;
        }
        if (one.find(thing) != NONE && one.asOftenPerhaps(thing) < k) {
            return 0;
        }
        // Who goes for it, and so every other BOUND, does not hang on the weight: 1 shows them all.
        paper.become(one);
        paper.halveAt = 0;
        paper.arrive(thing, 1);
        int weight = paper.rivalHigh(thing, k) - paper.lowOf(thing) + 2;
        return weight > MOST_NEED ? NONE : weight;
    }

    public int merged(int s, int other, int thing, int what) {
        Summary one = standing(s);
        Summary two = standing(other);
        if (one == null || two == null || s == other || !isThing(thing) || what < 0 || what > 4) {
            return CANT;
        }
        if (!hasSpace(one, two.total)) {
            return REFUSED;
        }
        paper.become(one);
        int leftOut = mix(paper, two);
        switch (what) {
            case 0: return paper.highOf(thing);
            case 1: return paper.lowOf(thing);
            case 2: return paper.find(thing) == NONE ? 0 : 1;
            case 3: return paper.absent;
            default: return leftOut;
        }
    }

    public int risen(int s, int other, int thing, boolean greatest) {
        Summary one = standing(s);
        Summary two = standing(other);
        if (one == null || two == null || !isThing(thing)) {
            return NO_RISE;
        }
        if (greatest) {
            return two.highOf(thing) - one.lowOf(thing);
        }
        return two.lowOf(thing) - one.highOf(thing);
    }

    public int rose(int s, int other, int i) {
        Summary one = standing(s);
        Summary two = standing(other);
        if (one == null || two == null) {
            return NONE;
        }
        // A THING without a COUNTER in the second one has LOW 0 there, so it can't have risen surely.
        list.empty();
        for (int p = 0; p < two.size; p++) {
            int least = two.low[p] - one.highOf(two.thing[p]);
            if (least > 0) {
                list.rank(two.thing[p], least, two.low[p]);
            }
        }
        return list.tell(i);
    }

    public int alike(int s, int other, int k) {
        Summary one = standing(s);
        Summary two = standing(other);
        if (one == null || two == null || !isTop(k)) {
            return NONE;
        }
        int same = 0;
        for (int p = 0; p < one.size; p++) {
            if (one.isInTop(one.thing[p], k) && two.isInTop(one.thing[p], k)) {
                same++;
            }
        }
        return same;
    }

    public int place(int s, int thing, boolean worst) {
        Summary one = standing(s);
        if (one == null || !isThing(thing)) {
            return NONE;
        }
        return worst ? one.oftenerPerhaps(thing) : one.surelyOftener(thing);
    }

    public int apart(int s, int other, boolean greatest) {
        Summary one = standing(s);
        Summary two = standing(other);
        if (one == null || two == null) {
            return NONE;
        }
        long together = 0;
        for (int p = 0; p < one.size; p++) {
            together += parting(one, two, one.thing[p], greatest);
        }
        for (int p = 0; p < two.size; p++) {
            if (one.find(two.thing[p]) == NONE) {
                together += parting(one, two, two.thing[p], greatest);
            }
        }
        return capped(together);
    }

    public int exact(int s, int i) {
        Summary one = standing(s);
        if (one == null) {
            return NONE;
        }
        list.empty();
        for (int p = 0; p < one.size; p++) {
            if (one.count[p] == one.low[p]) {
                list.append(one.thing[p]);
            }
        }
        return list.tell(i);
    }

    public int clear(int s) {
        Summary one = standing(s);
        if (one == null) {
            return NONE;
        }
        int unclear = 0;
        for (int p = 0; p < one.size; p++) {
            int greatest = greatestShare(one.count[p], one.total);
            if (greatest > unclear && !reaches(one.low[p], greatest, one.total)) {
                unclear = greatest;
            }
        }
        return unclear >= 1000 ? NONE : unclear + 1;
    }

    public int lasts(int s, int thing, int weight) {
        Summary one = standing(s);
        if (one == null || !isThing(thing) || !isWeight(weight)) {
            return CANT;
        }
        if (one.find(thing) == NONE) {
            return 0;
        }
        paper.become(one);
        paper.halveAt = 0;
        for (int coming = 1; coming <= MOST_COMING; coming++) {
            paper.arrive(paper.leastWithout(), weight);
            if (paper.find(thing) == NONE) {
                return coming;
            }
        }
        return NONE;
    }

    public int trial(int s, int seed, int n, int what) {
        Summary one = standing(s);
        if (one == null || !isStream(seed, n) || what < 0 || what > 4) {
            return CANT;
        }
        if (!hasSpace(one, n * STREAM_WEIGHT)) {
            return REFUSED;
        }
        paper.become(one);
        int went = draws.pour(paper, seed, n);
        switch (what) {
            case 0: return went;
            case 1: return paper.size;
            case 2: return paper.absent;
            case 3: return paper.total;
            default: return one.countersIn(paper);
        }
    }

    public int only(int s, int m, int r) {
        Summary one = standing(s);
        if (one == null || !isGroup(m, r)) {
            return CANT;
        }
        return one.keepGroup(m, r);
    }

    // ---- the truth

    public int off(int s, int what) {
        Summary one = standing(s);
        if (one == null) {
            return NONE;
        }
        spread(one);
        switch (what) {
            case 0: return greatestLess(highs, one.truth);
            case 1: return greatestLess(one.truth, lows);
            case 2: return justTrue(one);
            case 3: return truestWithout(one);
            default: return NONE;
        }
    }

    public int truest(int s, int k, int what) {
        Summary one = standing(s);
        if (one == null || k < 0 || k >= one.truthsAbove(0)) {
            return NONE;
        }
        int truth = one.truthAt(k);
        switch (what) {
            case 0: return one.thingOfTruth(truth, k - one.truthsAbove(truth));
            case 1: return truth;
            default: return NONE;
        }
    }

    public int judge(int s, int f, int what) {
        Summary one = standing(s);
        if (one == null || !isShare(f) || what < 0 || what > 2) {
            return NONE;
        }
        spread(one);
        int found = 0;
        for (int t = 0; t < THINGS; t++) {
            boolean truly = reaches(one.truth[t], f, one.total);
            boolean missed = truly && !reaches(highs[t], f, one.total);
            boolean wrongly = !truly && reaches(lows[t], f, one.total);
            if (what == 0 ? truly : what == 1 ? missed : wrongly) {
                found++;
            }
        }
        return found;
    }

    // ---- the tree

    public int node(int s, int level, int node, int what) {
        Summary one = standing(s);
        if (one == null || !tree.isNode(level, node)) {
            return NONE;
        }
        int width = tree.width(level);
        switch (what) {
            case 0: return one.lowsBetween(node * width, width);
            case 1: return one.total - one.lowsTogether(1, 0) + one.lowsBetween(node * width, width);
            case 2: return one.countersBetween(node * width, width);
            default: return NONE;
        }
    }

    public int own(int s, int level, int node, int f) {
        Summary one = standing(s);
        if (one == null || !isShare(f) || !tree.isNode(level, node)) {
            return NONE;
        }
        tree.grow(one, f);
        return tree.owns[level][node];
    }

    public int leading(int s, int level, int f, int i) {
        Summary one = standing(s);
        if (one == null || !isShare(f) || !tree.isLevel(level)) {
            return NONE;
        }
        tree.grow(one, f);
        list.empty();
        for (int node = 0; node < tree.owns[level].length; node++) {
            if (reaches(tree.owns[level][node], f, one.total)) {
                list.append(node);
            }
        }
        return list.tell(i);
    }

    // ---- windows

    public int window(int v, int room, int panes) {
        if (!isWindow(v) || !isRoom(room) || panes < 1 || panes > MOST_PANES) {
            return CANT;
        }
        int was = windows[v].opened ? 1 : 0;
        windows[v].begin(room, panes);
        return was;
    }

    public int flow(int v, int thing, int weight) {
        Window one = opened(v);
        if (one == null) {
            return CANT;
        }
        return takeIn(one.panes[0], thing, weight);
    }

    public int turn(int v) {
        Window one = opened(v);
        if (one == null) {
            return CANT;
        }
        one.openNext();
        return one.number;
    }

    public int pane(int v, int k, int what) {
        Window one = opened(v);
        if (one == null) {
            return NONE;
        }
        if (what == 3) {
            return one.number;
        }
        if (k < 0 || k >= one.number) {
            return NONE;
        }
        switch (what) {
            case 0: return one.panes[k].total;
            case 1: return one.panes[k].size;
            case 2: return one.panes[k].absent;
            default: return NONE;
        }
    }

    public int gather(int s, int v, int n) {
        Window one = opened(v);
        if (!isSummary(s) || one == null || n < 1 || n > one.number) {
            return CANT;
        }
        if (one.totalOf(n) > MOST_TOTAL) {
            return REFUSED;
        }
        Summary whole = shelf.row[s];
        whole.become(one.panes[0]);
        whole.wentNumber = 0;
        for (int k = 1; k < n; k++) {
            mix(whole, one.panes[k]);
        }
        return whole.size;
    }

    // ---- written, read

    public int write(int s) {
        Summary one = standing(s);
        if (one == null) {
            return CANT;
        }
        written.size = 0;
        written.put(one.room, 1);
        written.put(one.size, 1);
        written.put(one.total, 4);
        written.put(one.absent, 4);
        written.put(one.halveAt, 4);
        for (int p = 0; p < one.size; p++) {
            written.put(one.thing[p], 2);
            written.put(one.count[p], 4);
            written.put(one.low[p], 4);
        }
        written.put(written.checkOf(written.size), 1);
        return written.size;
    }

    public int octet(int i) {
        return i < 0 || i >= written.size ? NONE : written.row[i];
    }

    public int feed(int a, int b, int c) {
        if (tape.size + 12 > MOST_OCTETS) {
            return NONE;
        }
        tape.put(a, 4);
        tape.put(b, 4);
        tape.put(c, 4);
        return tape.size;
    }

    public boolean end(int n) {
        if (n < 0 || n > tape.size) {
            return false;
        }
        tape.size = n;
        return true;
    }

    public int read(int s) {
        if (!isSummary(s)) {
            return CANT;
        }
        boolean sound = reader.isSound(tape);
        if (sound) {
            reader.load(tape, shelf.row[s]);
        }
        tape.size = 0;
        return sound ? shelf.row[s].size : NONE;
    }

    public int fault(int what) {
        return what == 0 ? reader.flaw : what == 1 ? reader.flawPlace : NONE;
    }

    // ---- images

    public int keep(int k) {
        if (!isImage(k)) {
            return CANT;
        }
        images[k].become(shelf);
        images[k].filled = true;
        return shelf.number();
    }

    public int back(int k) {
        if (!isImage(k)) {
            return CANT;
        }
        if (!images[k].filled) {
            return REFUSED;
        }
        shelf.become(images[k]);
        return shelf.number();
    }

    // ---- what numbers can be

    private static boolean isSummary(int s) {
        return s >= 0 && s < SUMMARIES;
    }

    private static boolean isThing(int thing) {
        return thing >= 0 && thing < THINGS;
    }

    private static boolean isRoom(int room) {
        return room >= 1 && room <= MOST_ROOM;
    }

    private static boolean isWeight(int weight) {
        return weight >= 1 && weight <= MOST_WEIGHT;
    }

    private static boolean isTop(int k) {
        return k >= 1 && k <= MOST_ROOM;
    }

    private static boolean isShare(int f) {
        return f >= 1 && f <= 1000;
    }

    private static boolean isGroup(int m, int r) {
        return m >= 1 && m <= MOST_GROUPS && r >= 0 && r < m;
    }

    private static boolean isStream(int seed, int n) {
        return seed >= 0 && n >= 1 && n <= MOST_STREAM;
    }

    private static boolean isWindow(int v) {
        return v >= 0 && v < WINDOWS;
    }

    private static boolean isImage(int k) {
        return k >= 0 && k < IMAGES;
    }

    /** The SUMMARY s, or null when it is not there. */
    private Summary standing(int s) {
        return isSummary(s) && shelf.row[s].there ? shelf.row[s] : null;
    }

    /** The WINDOW v, or null when it is not opened. */
    private Window opened(int v) {
        return isWindow(v) && windows[v].opened ? windows[v] : null;
    }

    private static boolean hasSpace(Summary one, int more) {
        return one.total <= MOST_TOTAL - more;
    }

    private static int capped(long together) {
        return (int) Math.min(together, (long) MOST_TOTAL);
    }

    // ---- what several calls do

    private static int takeIn(Summary one, int thing, int weight) {
        if (!isThing(thing) || !isWeight(weight)) {
            return CANT;
        }
        if (!hasSpace(one, weight)) {
            return REFUSED;
        }
        return one.arrive(thing, weight);
    }

    /** The first becomes MERGED with the second: how many COUNTERS were left out. */
    private int mix(Summary first, Summary second) {
        list.empty();
        for (int p = 0; p < first.size; p++) {
            int t = first.thing[p];
            list.rank(t, first.count[p] + second.highOf(t), first.low[p] + second.lowOf(t));
        }
        for (int p = 0; p < second.size; p++) {
            int t = second.thing[p];
            if (first.find(t) == NONE) {
                list.rank(t, first.absent + second.count[p], second.low[p]);
            }
        }
        first.total += second.total;
        first.absent += second.absent;
        for (int t = 0; t < THINGS; t++) {
            first.truth[t] += second.truth[t];
        }
        return first.refill(list);
    }

    private void listFall(Summary one) {
        list.empty();
        for (int p = one.size - 1; p >= 0; p--) {
            list.rank(one.thing[p], one.count[p], one.low[p]);
        }
    }

    /** Whether what came so often is HEAVY by f. */
    private static boolean reaches(int often, int f, int total) {
        return often > 0 && 1000L * often >= (long) f * total;
    }

    /** The greatest f by which what came so often is HEAVY; 0: by none. */
    private static int greatestShare(int often, int total) {
        return total < 1 ? 0 : (int) Math.min(1000L * often / total, 1000L);
    }

    /** By how much the TRUTHS of a THING part at least, or at most, by BOUNDS. */
    private static int parting(Summary one, Summary two, int thing, boolean greatest) {
        int up = two.lowOf(thing) - one.highOf(thing);
        int down = one.lowOf(thing) - two.highOf(thing);
        return greatest ? Math.max(-up, -down) : Math.max(0, Math.max(up, down));
    }

    /** The BOUNDS of all THINGS laid out, so that no THING has to be looked for. */
    private void spread(Summary one) {
        Arrays.fill(highs, one.absent);
        Arrays.fill(lows, 0);
        for (int p = 0; p < one.size; p++) {
            highs[one.thing[p]] = one.count[p];
            lows[one.thing[p]] = one.low[p];
        }
    }

    private static int greatestLess(int[] more, int[] less) {
        int greatest = more[0] - less[0];
        for (int t = 1; t < THINGS; t++) {
            greatest = Math.max(greatest, more[t] - less[t]);
        }
        return greatest;
    }

    private int justTrue(Summary one) {
        int just = 0;
        for (int t = 0; t < THINGS; t++) {
            if (highs[t] == one.truth[t] && lows[t] == one.truth[t]) {
                just++;
            }
        }
        return just;
    }

    /** Of as many first ones by TRUTH as there are COUNTERS, how many have none. */
    private static int truestWithout(Summary one) {
        int asked = Math.min(one.size, one.truthsAbove(0));
        if (asked < 1) {
            return 0;
        }
        int last = one.truthAt(asked - 1);
        int ofLast = asked - one.truthsAbove(last);
        int without = 0;
        for (int t = 0; t < THINGS; t++) {
            boolean first = one.truth[t] > last;
            if (one.truth[t] == last && ofLast > 0) {
                first = true;
                ofLast--;
            }
            if (first && one.find(t) == NONE) {
                without++;
            }
        }
        return without;
    }

    /** A SUMMARY; its COUNTERS stand in ORDER, in the first places of their rows. */
    private static final class Summary {
        boolean there;
        int room;
        int total;
        int absent;
        int halveAt;
        int size;
        int halvedTimes;
        final int[] thing = new int[MOST_ROOM];
        final int[] count = new int[MOST_ROOM];
        final int[] low = new int[MOST_ROOM];
        final int[] truth = new int[THINGS];

        // The n-th that has GONE stands at place n by GONE_TOLD, so the latest ones take the oldest ones' places.
        int wentNumber;
        final int[] wentThing = new int[GONE_TOLD];
        final int[] wentCount = new int[GONE_TOLD];
        final int[] wentFor = new int[GONE_TOLD];

        void begin(int newRoom) {
            there = true;
            room = newRoom;
            total = 0;
            absent = 0;
            halveAt = 0;
            size = 0;
            halvedTimes = 0;
            wentNumber = 0;
            Arrays.fill(truth, 0);
        }

        void become(Summary other) {
            there = other.there;
            if (!there) {
                return;
            }
            room = other.room;
            total = other.total;
            absent = other.absent;
            halveAt = other.halveAt;
            size = other.size;
            halvedTimes = other.halvedTimes;
            wentNumber = other.wentNumber;
            System.arraycopy(other.thing, 0, thing, 0, MOST_ROOM);
            System.arraycopy(other.count, 0, count, 0, MOST_ROOM);
            System.arraycopy(other.low, 0, low, 0, MOST_ROOM);
            System.arraycopy(other.truth, 0, truth, 0, THINGS);
            System.arraycopy(other.wentThing, 0, wentThing, 0, GONE_TOLD);
            System.arraycopy(other.wentCount, 0, wentCount, 0, GONE_TOLD);
            System.arraycopy(other.wentFor, 0, wentFor, 0, GONE_TOLD);
        }

        // -- changes

        int arrive(int t, int weight) {
            total += weight;
            truth[t] += weight;
            int how = reckon(t, weight);
            if (halveAt != 0 && total >= halveAt) {
                halveAll();
            }
            return how;
        }

        private int reckon(int t, int weight) {
            int at = find(t);
            if (at != NONE) {
                int newCount = count[at] + weight;
                int newLow = low[at] + weight;
                takeOut(at);
                putIn(t, newCount, newLow);
                return COUNTED;
            }
            int how = GOT_ONE;
            if (isFull()) {
                sendFirst(t);
                how = ONE_WENT;
            }
            putIn(t, absent + weight, weight);
            return how;
        }

        private void sendFirst(int forWhich) {
            int at = wentNumber % GONE_TOLD;
            wentThing[at] = thing[0];
            wentCount[at] = count[0];
            wentFor[at] = forWhich;
            wentNumber++;
            raiseAbsent(count[0]);
            takeOut(0);
        }

        private void raiseAbsent(int to) {
            absent = Math.max(absent, to);
        }

        private void takeOut(int at) {
            for (int p = at + 1; p < size; p++) {
                setAt(p - 1, thing[p], count[p], low[p]);
            }
            size--;
        }

        /** Behind all COUNTERS of its COUNT: it got this COUNT last. */
        void putIn(int t, int newCount, int newLow) {
            if (size >= MOST_ROOM) {
                return;
            }
            int at = behindCount(newCount);
            for (int p = size; p > at; p--) {
                setAt(p, thing[p - 1], count[p - 1], low[p - 1]);
            }
            setAt(at, t, newCount, newLow);
            size++;
        }

        private void setAt(int at, int t, int newCount, int newLow) {
            thing[at] = t;
            count[at] = newCount;
            low[at] = newLow;
        }

        int halveAll() {
            total /= 2;
            absent /= 2;
            for (int t = 0; t < THINGS; t++) {
                truth[t] /= 2;
            }
            int kept = 0;
            for (int p = 0; p < size; p++) {
                if (count[p] >= 2) {
                    setAt(kept, thing[p], count[p] / 2, low[p] / 2);
                    kept++;
                }
            }
            halvedTimes++;
            return shortenTo(kept);
        }

        int keepLast(int newRoom) {
            room = newRoom;
            int out = Math.max(0, size - newRoom);
            for (int p = 0; p < size; p++) {
                if (p < out) {
                    raiseAbsent(count[p]);
                } else {
                    setAt(p - out, thing[p], count[p], low[p]);
                }
            }
            return shortenTo(size - out);
        }

        int keepGroup(int m, int r) {
            int kept = 0;
            for (int p = 0; p < size; p++) {
                if (thing[p] % m == r) {
                    setAt(kept, thing[p], count[p], low[p]);
                    kept++;
                } else {
                    raiseAbsent(count[p]);
                }
            }
            return shortenTo(kept);
        }

        private int shortenTo(int kept) {
            int went = size - kept;
            size = kept;
            return went;
        }

        /** In place of the COUNTERS come the first of a list by FALL: how many of it were left out. */
        int refill(Listing fall) {
            size = 0;
            int kept = Math.min(fall.size, room);
            for (int i = 0; i < kept; i++) {
                putIn(fall.thing[i], fall.key[i], fall.low[i]);
            }
            if (kept < fall.size) {
                raiseAbsent(fall.key[kept]);
            }
            return fall.size - kept;
        }

        // -- COUNTERS and BUCKETS

        boolean isFull() {
            return size >= room;
        }

        int find(int t) {
            for (int p = 0; p < size; p++) {
                if (thing[p] == t) {
                    return p;
                }
            }
            return NONE;
        }

        int highOf(int t) {
            int at = find(t);
            return at == NONE ? absent : count[at];
        }

        int lowOf(int t) {
            int at = find(t);
            return at == NONE ? 0 : low[at];
        }

        int leastWithout() {
            int t = 0;
            while (t < MOST_ROOM && find(t) != NONE) {
                t++;
            }
            return t;
        }

        private boolean beginsBucket(int p) {
            return p == 0 || count[p] != count[p - 1];
        }

        /** Which BUCKET the COUNTER at a place stands in. */
        int bucketOf(int at) {
            int begun = 0;
            for (int p = 0; p <= at; p++) {
                if (beginsBucket(p)) {
                    begun++;
                }
            }
            return begun - 1;
        }

        int buckets() {
            return bucketOf(size - 1) + 1;
        }

        int firstOfBucket(int k) {
            int begun = 0;
            for (int p = 0; p < size; p++) {
                if (beginsBucket(p)) {
                    if (begun == k) {
                        return p;
                    }
                    begun++;
                }
            }
            return NONE;
        }

        /** The place behind all COUNTERS of this COUNT and of lesser ones. */
        int behindCount(int most) {
            int at = size;
            while (at > 0 && count[at - 1] > most) {
                at--;
            }
            return at;
        }

        // -- how THINGS stand to one another

        int fallPlace(int t) {
            int at = find(t);
            if (at == NONE) {
                return NONE;
            }
            int ahead = 0;
            for (int p = 0; p < size; p++) {
                if (count[p] > count[at] || (count[p] == count[at] && thing[p] < t)) {
                    ahead++;
                }
            }
            return ahead;
        }

        boolean isInTop(int t, int k) {
            int at = fallPlace(t);
            return at != NONE && at < k;
        }

        int lowsAbove(int often) {
            int above = 0;
            for (int p = 0; p < size; p++) {
                if (low[p] > often) {
                    above++;
                }
            }
            return above;
        }

        /** How many other THINGS have come oftener for sure: its own LOW is never above its HIGH. */
        int surelyOftener(int t) {
            return lowsAbove(highOf(t));
        }

        /** How many other THINGS can have come oftener. */
        int oftenerPerhaps(int t) {
            return othersFrom(t, lowOf(t) + 1);
        }

        /** How many other THINGS can have come as often or oftener. */
        int asOftenPerhaps(int t) {
            return othersFrom(t, lowOf(t));
        }

        /** How many other THINGS have a HIGH of so much or more. */
        private int othersFrom(int t, int least) {
            int others = 0;
            for (int p = 0; p < size; p++) {
                if (thing[p] != t && count[p] >= least) {
                    others++;
                }
            }
            if (absent >= least) {
                others += THINGS - size - (find(t) == NONE ? 1 : 0);
            }
            return others;
        }

        /** The k-th greatest HIGH of other THINGS: those without COUNTERS are more than any k. */
        int rivalHigh(int t, int k) {
            int left = k;
            for (int p = size - 1; p >= 0; p--) {
                if (thing[p] != t) {
                    left--;
                    if (left == 0) {
                        return Math.max(count[p], absent);
                    }
                }
            }
            return absent;
        }

        int countersIn(Summary other) {
            int both = 0;
            for (int p = 0; p < size; p++) {
                if (other.find(thing[p]) != NONE) {
                    both++;
                }
            }
            return both;
        }

        // -- sums

        int countersOf(int m, int r) {
            int number = 0;
            for (int p = 0; p < size; p++) {
                if (thing[p] % m == r) {
                    number++;
                }
            }
            return number;
        }

        int countsTogether(int m, int r) {
            long together = 0;
            for (int p = 0; p < size; p++) {
                if (thing[p] % m == r) {
                    together += count[p];
                }
            }
            return capped(together);
        }

        int lowsTogether(int m, int r) {
            int together = 0;
            for (int p = 0; p < size; p++) {
                if (thing[p] % m == r) {
                    together += low[p];
                }
            }
            return together;
        }

        int truthsTogether(int m, int r) {
            int together = 0;
            for (int t = r; t < THINGS; t += m) {
                together += truth[t];
            }
            return together;
        }

        private boolean isBetween(int p, int from, int width) {
            return thing[p] >= from && thing[p] < from + width;
        }

        int lowsBetween(int from, int width) {
            int together = 0;
            for (int p = 0; p < size; p++) {
                if (isBetween(p, from, width)) {
                    together += low[p];
                }
            }
            return together;
        }

        int countersBetween(int from, int width) {
            int number = 0;
            for (int p = 0; p < size; p++) {
                if (isBetween(p, from, width)) {
                    number++;
                }
            }
            return number;
        }

        // -- the TRUTH

        int truthsAbove(int often) {
            int above = 0;
            for (int t = 0; t < THINGS; t++) {
                if (truth[t] > often) {
                    above++;
                }
            }
            return above;
        }

        /** The k-th TRUTH, falling: the least number that at most k TRUTHS are above, found by halves. */
        int truthAt(int k) {
            int least = 0;
            int most = total;
            for (int step = 0; step < 32 && least < most; step++) {
                int middle = least + (most - least) / 2;
                if (truthsAbove(middle) <= k) {
                    most = middle;
                } else {
                    least = middle + 1;
                }
            }
            return least;
        }

        int thingOfTruth(int often, int k) {
            int left = k;
            for (int t = 0; t < THINGS; t++) {
                if (truth[t] == often) {
                    if (left == 0) {
                        return t;
                    }
                    left--;
                }
            }
            return NONE;
        }
    }

    /** All SUMMARIES. */
    private static final class Shelf {
        final Summary[] row = new Summary[SUMMARIES];
        boolean filled;

        Shelf() {
            for (int s = 0; s < SUMMARIES; s++) {
                row[s] = new Summary();
            }
        }

        int number() {
            int there = 0;
            for (int s = 0; s < SUMMARIES; s++) {
                if (row[s].there) {
                    there++;
                }
            }
            return there;
        }

        void become(Shelf other) {
            for (int s = 0; s < SUMMARIES; s++) {
                row[s].become(other.row[s]);
            }
        }
    }

    /** A list to be told by places; it has space for the COUNTERS of two SUMMARIES. */
    private static final class Listing {
        final int[] thing = new int[2 * MOST_ROOM];
        final int[] key = new int[2 * MOST_ROOM];
        final int[] low = new int[2 * MOST_ROOM];
        int size;

        void empty() {
            size = 0;
        }

        void append(int t) {
            if (size < thing.length) {
                thing[size] = t;
                size++;
            }
        }

        /** By the key, falling, of like ones the lesser THINGS first. */
        void rank(int t, int newKey, int newLow) {
            if (size >= thing.length) {
                return;
            }
            int at = size;
            while (at > 0 && (key[at - 1] < newKey || (key[at - 1] == newKey && thing[at - 1] > t))) {
                thing[at] = thing[at - 1];
                key[at] = key[at - 1];
                low[at] = low[at - 1];
                at--;
            }
            thing[at] = t;
            key[at] = newKey;
            low[at] = newLow;
            size++;
        }

        void cutTo(int most) {
            size = Math.min(size, most);
        }

        int tell(int i) {
            if (i == NONE) {
                return size;
            }
            return i < 0 || i >= size ? NONE : thing[i];
        }
    }

    /** The STREAMS. */
    private static final class Draws {
        private long x;

        private int draw(int m) {
            x = (1103515245L * x + 12345L) & 0x7fffffffL;
            return m < 1 ? 0 : (int) ((x / 64) % m);
        }

        /** A STREAM comes to a SUMMARY: how many of it made another one go. */
        int pour(Summary into, int seed, int n) {
            x = seed;
            int went = 0;
            for (int i = 0; i < n; i++) {
                int most = draw(STREAM_THINGS) + 1;
                int thing = draw(most);
                int weight = draw(STREAM_WEIGHT) + 1;
                if (into.arrive(thing, weight) == ONE_WENT) {
                    went++;
                }
            }
            return went;
        }
    }

    /** The TREE with the OWNS of all its NODES, a row for each LEVEL. */
    private static final class Tree {
        private static final int[] WIDTHS = {1000, 100, 10, 1};

        final int[][] owns = {new int[1], new int[10], new int[100], new int[1000]};

        boolean isLevel(int level) {
            return level >= 0 && level <= LEAVES;
        }

        boolean isNode(int level, int node) {
            return isLevel(level) && node >= 0 && node < owns[level].length;
        }

        /** How many THINGS a NODE of a LEVEL has. */
        int width(int level) {
            return isLevel(level) ? WIDTHS[level] : 0;
        }

        void grow(Summary one, int f) {
            Arrays.fill(owns[LEAVES], 0);
            for (int p = 0; p < one.size; p++) {
                owns[LEAVES][one.thing[p]] = one.low[p];
            }
            for (int level = LEAVES - 1; level >= 0; level--) {
                for (int node = 0; node < owns[level].length; node++) {
                    owns[level][node] = notLeading(owns[level + 1], node * BRANCHES, f, one.total);
                }
            }
        }

        private static int notLeading(int[] below, int from, int f, int total) {
            int together = 0;
            for (int i = from; i < from + BRANCHES; i++) {
                if (!reaches(below[i], f, total)) {
                    together += below[i];
                }
            }
            return together;
        }
    }

    /** A WINDOW; its open PANE stands first, behind it each older one. */
    private static final class Window {
        boolean opened;
        int room;
        int most;
        int number;
        final Summary[] panes = new Summary[MOST_PANES];

        Window() {
            for (int k = 0; k < MOST_PANES; k++) {
                panes[k] = new Summary();
            }
        }

        void begin(int newRoom, int newMost) {
            opened = true;
            room = newRoom;
            most = newMost;
            number = 1;
            panes[0].begin(room);
        }

        /** The rows of the oldest PANE, or of one not used yet, become the new one's. */
        void openNext() {
            if (number < most) {
                number++;
            }
            Summary next = panes[number - 1];
            for (int k = number - 1; k > 0; k--) {
                panes[k] = panes[k - 1];
            }
            panes[0] = next;
            next.begin(room);
        }

        long totalOf(int n) {
            long together = 0;
            for (int k = 0; k < n; k++) {
                together += panes[k].total;
            }
            return together;
        }
    }

    /** A row of bytes. */
    private static final class Octets {
        final int[] row = new int[MOST_OCTETS];
        int size;

        void put(int number, int octets) {
            for (int i = octets - 1; i >= 0; i--) {
                if (size < row.length) {
                    row[size] = (number >>> (8 * i)) & 255;
                    size++;
                }
            }
        }

        int number(int at, int octets) {
            int number = 0;
            for (int i = at; i < at + octets; i++) {
                number = (number << 8) | (i >= 0 && i < size ? row[i] : 0);
            }
            return number;
        }

        int checkOf(int n) {
            int check = 7;
            for (int i = 0; i < n; i++) {
                check = (3 * check + number(i, 1)) % 251;
            }
            return check;
        }
    }

    /** What looks for the FAULT of a row of bytes, and READS one that has none. */
    private static final class Reader {
        int flaw;
        int flawPlace = NONE;

        boolean isSound(Octets from) {
            flaw = 0;
            flawPlace = NONE;
            return hasSize(from) && hasHead(from) && hasCounters(from) && hasCheck(from);
        }

        private boolean flawed(int which, int at) {
            flaw = which;
            flawPlace = at;
            return false;
        }

        private boolean hasSize(Octets from) {
            int asked = HEAD_OCTETS + COUNTER_OCTETS * from.number(1, 1) + 1;
            return from.size == asked || flawed(1, from.size);
        }

        private boolean hasHead(Octets from) {
            int total = from.number(2, 4);
            int absent = from.number(6, 4);
            int halveAt = from.number(10, 4);
            if (!isRoom(from.number(0, 1))) {
                return flawed(2, 0);
            }
            if (from.number(1, 1) > from.number(0, 1)) {
                return flawed(3, 1);
            }
            if (total < 0 || total > MOST_TOTAL) {
                return flawed(4, 2);
            }
            if (absent < 0 || absent > total) {
                return flawed(4, 6);
            }
            return (halveAt >= 0 && halveAt <= MOST_TOTAL) || flawed(4, 10);
        }

        private boolean hasCounters(Octets from) {
            int counters = from.number(1, 1);
            int total = from.number(2, 4);
            int ahead = 1;
            long lows = 0;
            for (int k = 0; k < counters; k++) {
                int at = HEAD_OCTETS + COUNTER_OCTETS * k;
                int count = from.number(at + 2, 4);
                int low = from.number(at + 6, 4);
                if (!isNewThing(from, k)) {
                    return flawed(5, at);
                }
                if (count < ahead || count > total) {
                    return flawed(6, at);
                }
                if (low > count || low < 0) {
                    return flawed(7, at);
                }
                lows += low;
                if (lows > total) {
                    return flawed(8, at);
                }
                ahead = count;
            }
            return true;
        }

        private static boolean isNewThing(Octets from, int k) {
            int thing = thingOf(from, k);
            for (int earlier = 0; earlier < k; earlier++) {
                if (thingOf(from, earlier) == thing) {
                    return false;
                }
            }
            return isThing(thing);
        }

        private static int thingOf(Octets from, int k) {
            return from.number(HEAD_OCTETS + COUNTER_OCTETS * k, 2);
        }

        private boolean hasCheck(Octets from) {
            int at = from.size - 1;
            return from.number(at, 1) == from.checkOf(at) || flawed(9, at);
        }

        /** Only for a row that is sound. */
        void load(Octets from, Summary into) {
            into.begin(from.number(0, 1));
            into.total = from.number(2, 4);
            into.absent = from.number(6, 4);
            into.halveAt = from.number(10, 4);
            int counters = from.number(1, 1);
            for (int k = 0; k < counters; k++) {
                int at = HEAD_OCTETS + COUNTER_OCTETS * k;
                int thing = thingOf(from, k);
                if (isThing(thing)) {
                    into.truth[thing] = from.number(at + 6, 4);
                    into.putIn(thing, from.number(at + 2, 4), from.number(at + 6, 4));
                }
            }
        }
    }
}
