import java.lang.reflect.Method;
import java.util.ArrayList;
import java.util.Arrays;
import java.util.List;
import java.util.Random;
import java.util.TreeMap;

/** Runs of calls by chance, the same each time: the class and the model must answer alike. */
public final class AgainstModel {
    private static final int RUNS = 1500;
    private static final int CALLS = 512;

    /** Each call with the kinds of its numbers, and how often it is drawn. */
    private static final String[] CALLS_BY_KIND = {
        "make s room*2", "drop s", "has s what11*6", "come s thing weight*40", "stream s seed n*4", "halve s*2",
        "halving s h*2", "resize s room*3", "merge s s*4", "copy s s*2",
        "counter s k what5*10", "bucket s k what4*6", "bounds s thing what5*8", "gone s k what3*5",
        "top s k24 i*3", "sure s k24 flag i*6", "open s k24*2", "heavy s f flag i*5", "fewest s f*3",
        "group s m r what4*4", "victim s*2", "would s thing weight what5*6", "need s thing k24*5",
        "merged s s thing what5*5", "risen s s thing flag*3", "rose s s i*4", "alike s s k24*3",
        "place s thing flag*4", "apart s s flag*3", "exact s i*3", "clear s*3", "lasts s thing weight*4",
        "trial s seed n what5*5", "only s m r*1", "off s what4*5", "truest s k what2*4", "judge s f what3*4",
        "node s level node what3*5", "own s level node f*4", "leading s level f i*5",
        "window v room panes*1", "flow v thing weight*10", "turn v*3", "pane v k what4*4", "gather s v panes*3",
        "write s*2", "octet i*4", "feed any any any", "end any", "read s", "fault what2*2", "keep image", "back image",
        "TAPE*4", "WRITTEN",
    };

    private static final TreeMap<String, Method> OURS = methods(HeavyThings.class);
    private static final TreeMap<String, Method> MODELS = methods(Model.class);

    private final Random chance;
    private final HeavyThings ours = new HeavyThings();
    private final Model model = new Model();
    private final List<String> told = new ArrayList<>();
    private final int fewSummaries;
    private final int fewThings;
    private final int fewRoom;
    private final int usualWeight;
    private final boolean mayShrink;
    private int lastM = 1;
    private int lastLevel;
    private boolean alike = true;

    private AgainstModel(long seed) {
        chance = new Random(seed);
        fewSummaries = 1 + chance.nextInt(4);
        fewThings = 2 + chance.nextInt(chance.nextBoolean() ? 12 : 60);
        fewRoom = 1 + chance.nextInt(chance.nextBoolean() ? 5 : 24);
        usualWeight = 1 + chance.nextInt(chance.nextBoolean() ? 4 : 400);
        mayShrink = chance.nextBoolean();
    }

    private static TreeMap<String, Method> methods(Class<?> c) {
        TreeMap<String, Method> by = new TreeMap<>();
        for (Method m : c.getDeclaredMethods()) {
            if (java.lang.reflect.Modifier.isPublic(m.getModifiers())) {
                by.put(m.getName(), m);
            }
        }
        return by;
    }

    private int from(int least, int most) {
        return least + chance.nextInt(most - least + 1);
    }

    private int one(int... of) {
        return of[chance.nextInt(of.length)];
    }

    private boolean rarely(int in) {
        return chance.nextInt(in) == 0;
    }

    private int what(int above) {
        return rarely(25) ? one(-1, above + 1, Integer.MAX_VALUE, Integer.MIN_VALUE) : from(0, above);
    }

    private Object number(String kind) {
        if (kind.startsWith("what")) {
            return what(Integer.parseInt(kind.substring(4)) - 1);
        }
        if (!kind.equals("flag") && rarely(60)) {
            return one(-1, -2, 0, 1000, 1001, 25, 1000000000, Integer.MAX_VALUE, Integer.MIN_VALUE);
        }
        switch (kind) {
            case "s": return rarely(30) ? from(-1, 6) : from(0, fewSummaries - 1);
            case "room": return rarely(20) ? one(0, 25, 24, 1) : rarely(3) ? from(1, 24) : fewRoom;
            case "thing": return rarely(20) ? one(0, 999, 1000, -1) : rarely(6) ? from(0, 999) : from(0, fewThings - 1);
            case "weight": return rarely(20) ? one(0, 1, 9999, 10000) : from(1, usualWeight);
            case "seed": return rarely(3) ? from(0, Integer.MAX_VALUE - 1) : rarely(20) ? -1 : from(0, 1000);
            case "n": return rarely(15) ? one(0, 1, 100, 101) : from(1, 30);
            case "h": return rarely(3) ? 0 : rarely(4) ? one(1, 2, 1000000000, 1000000001) : from(1, 40 * usualWeight);
            case "k": return rarely(6) ? from(-1, 40) : from(0, Math.min(fewRoom, fewThings));
            case "k24": return rarely(8) ? from(-1, 26) : from(1, 4);
            case "i": return rarely(2) ? -1 : from(-2, 8);
            case "f": return rarely(10) ? one(0, 1, 999, 1000, 1001) : rarely(2) ? from(1, 1000) : from(1, 250);
            case "flag": return chance.nextBoolean();
            case "m": lastM = rarely(10) ? one(-1, 0, 1, 100, 101) : from(1, 9); return lastM;
            case "r": return rarely(10) ? from(-1, 101) : from(0, Math.max(0, lastM - 1));
            case "level": lastLevel = rarely(20) ? one(-1, 4) : from(0, 3); return lastLevel;
            case "node": return rarely(10) ? one(-1, 1, 10, 100, 1000, 9, 99, 999) : nodeNear();
            case "v": return rarely(20) ? from(-1, 2) : from(0, 1);
            case "panes": return rarely(20) ? one(0, 7) : from(1, 6);
            case "image": return rarely(10) ? from(-1, 2) : from(0, 1);
            case "any": return rarely(2) ? from(0, 30) : chance.nextInt();
            default: throw new IllegalStateException(kind);
        }
    }

    private int nodeNear() {
        int thing = from(0, fewThings - 1);
        return lastLevel == 3 ? thing : lastLevel == 2 ? thing / 10 : lastLevel == 1 ? thing / 100 : 0;
    }

    private Object call(String name, Object... numbers) {
        if (!alike) {
            return null;
        }
        try {
            Object got = OURS.get(name).invoke(ours, numbers);
            Object want = MODELS.get(name).invoke(model, numbers);
            told.add(name + Arrays.toString(numbers) + " -> " + got);
            if (!got.equals(want)) {
                alike = false;
                told.add("   the model answers " + want);
            }
            return got;
        } catch (ReflectiveOperationException e) {
            alike = false;
            told.add(name + Arrays.toString(numbers) + " threw " + e.getCause());
            return null;
        }
    }

    private void run() {
        List<String> bag = new ArrayList<>();
        for (String line : CALLS_BY_KIND) {
            String[] parts = line.split("\\*");
            int often = parts.length == 1 ? 1 : Integer.parseInt(parts[1]);
            if (!mayShrink && parts[0].matches("(only|resize|halving|drop|make|back) .*")) {
                continue;
            }
            for (int i = 0; i < often; i++) {
                bag.add(parts[0]);
            }
        }
        for (int s = 0; s < fewSummaries; s++) {
            call("make", s, fewRoom);
        }
        if (!rarely(3)) {
            call("window", from(0, 1), fewRoom, from(1, 6));
        }
        while (alike && told.size() < CALLS) {
            String[] words = bag.get(chance.nextInt(bag.size())).split(" ");
            if (words[0].equals("TAPE")) {
                feedAndRead(row());
            } else if (words[0].equals("WRITTEN")) {
                if (rarely(2)) {
                    writeAndRead();
                }
            } else {
                Object[] numbers = new Object[words.length - 1];
                for (int i = 0; i < numbers.length; i++) {
                    numbers[i] = number(words[i + 1]);
                }
                call(words[0], numbers);
            }
        }
    }

    private void writeAndRead() {
        Object n = call("write", number("s"));
        List<Integer> row = new ArrayList<>();
        for (int i = 0; n != null && i < (Integer) n; i++) {
            row.add((Integer) call("octet", i));
        }
        if (alike && !row.isEmpty()) {
            feedAndRead(row);
        }
    }

    /** A row of bytes that is nearly always sound, or all but sound; its TOTAL is often a great one. */
    private List<Integer> row() {
        List<Integer> row = new ArrayList<>();
        int total = rarely(2) ? 1000000000 - from(0, 3000) : from(0, 4000);
        int room = from(1, 24);
        int counters = from(0, Math.min(room, rarely(2) ? 24 : 3));
        Model.number(row, room, 1);
        Model.number(row, counters, 1);
        Model.number(row, total, 4);
        Model.number(row, rarely(2) ? 0 : from(0, total), 4);
        Model.number(row, rarely(2) ? 0 : from(0, 1000000000), 4);
        int left = total;
        int count = from(0, 3);
        for (int i = 0; i < counters; i++) {
            count = Math.max(1, rarely(2) ? count : Math.min(total, count + from(0, rarely(3) ? total : 50)));
            int low = rarely(3) ? 0 : from(0, Math.max(0, Math.min(left, count)));
            left -= low;
            Model.number(row, rarely(40) ? from(0, 1100) : (7 * i) % (fewThings + 40), 2);
            Model.number(row, count, 4);
            Model.number(row, low, 4);
        }
        if (rarely(3)) {
            spoil(row);
        }
        row.add(Model.check(row, row.size()));
        if (rarely(10)) {
            spoil(row);
        }
        return row;
    }

    private void spoil(List<Integer> row) {
        int at = rarely(3) ? from(0, Math.min(13, row.size() - 1)) : from(0, row.size() - 1);
        row.set(at, rarely(2) ? from(0, 255) : (row.get(at) + one(-1, 1)) & 255);
    }

    private void feedAndRead(List<Integer> row) {
        call("end", 0);
        for (int at = 0; at < row.size(); at += 12) {
            int[] words = new int[3];
            for (int i = 0; i < 12; i++) {
                int octet = at + i < row.size() ? row.get(at + i) : 0;
                words[i / 4] = (words[i / 4] << 8) | octet;
            }
            call("feed", words[0], words[1], words[2]);
        }
        call("end", rarely(20) ? row.size() - 1 : row.size());
        call("read", number("s"));
        call("fault", 0);
        call("fault", 1);
    }

    public static void main(String[] args) {
        int runs = args.length > 0 ? Integer.parseInt(args[0]) : RUNS;
        long first = args.length > 1 ? Long.parseLong(args[1]) : 0;
        TreeMap<Object, Integer> answers = new TreeMap<>();
        for (int r = 0; r < runs; r++) {
            AgainstModel test = new AgainstModel(first + r);
            test.run();
            for (String line : test.told) {
                answers.merge(line.replaceAll("\\[.*-> (-?).*", "$1"), 1, Integer::sum);
            }
            if (!test.alike) {
                System.out.println("run " + (first + r) + " parts from the model at its last call:");
                for (String line : test.told) {
                    System.out.println("  " + line);
                }
                System.exit(1);
            }
        }
        if (args.length > 2) {
            System.out.println(answers);
        }
        System.out.println("the class and the model answered alike in " + runs + " runs");
    }
}
