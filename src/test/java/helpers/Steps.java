import java.util.ArrayList;
import java.util.List;

/**
 * Calls as lines of text, each with the answer that is due: "come(0, 5, 3) = 1".
 *
 * <p>A number may be a row, {@code 1..9} or {@code {0,5,9}}: then there is a call for each number of
 * it, the last row turning fastest, and the answer is one for all or a row, which begins anew at its
 * end. Beside the calls of the class there are three lines that stand for several of them:
 * <pre>
 * order(0) = 4:4/1 1:5/5 absent 3 total 14     the COUNTERS in ORDER, THING:COUNT/LOW
 * tape = 3 1 14/4 3/4 0/4 4/2 4/4 1/4 check    bytes, a number of n bytes being number/n
 * load(0) = 3 14 3 0; 4 4 1; 1 5 5             ROOM TOTAL ABSENT HALVING; THING COUNT LOW of each, read()
 * </pre>
 */
final class Steps {
    private static final int FEED_OCTETS = 12;

    private Steps() {
    }

    static List<Step> of(String line) {
        int is = line.indexOf('=');
        if (is < 0) {
            throw new IllegalArgumentException("no answer: " + line);
        }
        String asked = line.substring(0, is).trim();
        String want = line.substring(is + 1).trim();
        if (asked.equals("tape")) {
            return laid(octets(want));
        }
        String name = asked.substring(0, asked.indexOf('('));
        String numbers = asked.substring(asked.indexOf('(') + 1, asked.lastIndexOf(')'));
        if (name.equals("order")) {
            return order(number(numbers), want);
        }
        if (name.equals("load")) {
            return loaded(number(numbers), want);
        }
        return calls(name, numbers, row(want));
    }

    // ---- numbers and rows of them

    private static int number(String text) {
        String word = text.trim();
        switch (word) {
            case "NONE": return HeavyThings.NONE;
            case "MIN": return Integer.MIN_VALUE;
            case "MAX": return Integer.MAX_VALUE;
            case "MOST": return 1000000000;
            case "true": return 1;
            case "false": return 0;
            default: return Integer.parseInt(word);
        }
    }

    private static List<Integer> row(String text) {
        List<Integer> all = new ArrayList<>();
        String word = text.trim();
        if (word.startsWith("{")) {
            for (String part : word.substring(1, word.length() - 1).split(",")) {
                all.addAll(row(part));
            }
        } else if (word.contains("..")) {
            int from = number(word.substring(0, word.indexOf("..")));
            int to = number(word.substring(word.indexOf("..") + 2));
            for (int i = from; from <= to ? i <= to : i >= to; i += from <= to ? 1 : -1) {
                all.add(i);
            }
        } else {
            all.add(number(word));
        }
        return all;
    }

    // ---- calls

    private static List<String> parts(String numbers) {
        List<String> all = new ArrayList<>();
        if (!numbers.isBlank()) {
            for (String part : numbers.split(",(?![^{]*})")) {
                all.add(part);
            }
        }
        return all;
    }

    private static List<Step> calls(String name, String numbers, List<Integer> want) {
        List<int[]> all = new ArrayList<>();
        List<String> parts = parts(numbers);
        all.add(new int[parts.size()]);
        for (int i = 0; i < parts.size(); i++) {
            List<int[]> more = new ArrayList<>();
            for (int[] begun : all) {
                for (int number : row(parts.get(i))) {
                    int[] next = begun.clone();
                    next[i] = number;
                    more.add(next);
                }
            }
            all = more;
        }
        if (all.size() % want.size() != 0) {
            throw new IllegalArgumentException(name + "(" + numbers + "): " + all.size() + " calls, " + want.size() + " answers");
        }
        List<Step> steps = new ArrayList<>();
        for (int i = 0; i < all.size(); i++) {
            steps.add(new Step(name, all.get(i), want.get(i % want.size())));
        }
        return steps;
    }

    private static Step step(String name, int want, int... numbers) {
        return new Step(name, numbers, want);
    }

    private static List<Step> order(int s, String want) {
        String[] words = want.split("\\s+");
        int counters = words.length - 4;
        if (counters < 0 || !words[counters].equals("absent") || !words[counters + 2].equals("total")) {
            throw new IllegalArgumentException("no ORDER: " + want);
        }
        List<Step> steps = new ArrayList<>();
        steps.add(step("has", counters, s, 1));
        for (int k = 0; k < counters; k++) {
            String[] of = words[k].split("[:/]");
            for (int what = 0; what < 3; what++) {
                steps.add(step("counter", number(of[what]), s, k, what));
            }
        }
        steps.add(step("has", number(words[counters + 1]), s, 3));
        steps.add(step("has", number(words[counters + 3]), s, 2));
        return steps;
    }

    // ---- bytes

    private static void put(List<Integer> octets, int number, int n) {
        for (int i = n - 1; i >= 0; i--) {
            octets.add((number >>> (8 * i)) & 255);
        }
    }

    private static int check(List<Integer> octets) {
        int c = 7;
        for (int octet : octets) {
            c = (3 * c + octet) % 251;
        }
        return c;
    }

    private static List<Integer> octets(String text) {
        List<Integer> all = new ArrayList<>();
        for (String word : text.isBlank() ? new String[0] : text.split("\\s+")) {
            String[] of = word.split("/");
            if (word.startsWith("check")) {
                all.add(check(all) + (word.equals("check") ? 0 : number(word.substring(5))));
            } else {
                put(all, number(of[0]), of.length == 1 ? 1 : number(of[1]));
            }
        }
        return all;
    }

    private static List<Step> laid(List<Integer> octets) {
        List<Step> steps = new ArrayList<>();
        steps.add(step("end", 1, 0));
        for (int from = 0; from < octets.size(); from += FEED_OCTETS) {
            int[] words = new int[3];
            for (int i = 0; i < FEED_OCTETS; i++) {
                words[i / 4] = (words[i / 4] << 8) | (from + i < octets.size() ? octets.get(from + i) : 0);
            }
            steps.add(step("feed", from + FEED_OCTETS, words));
        }
        steps.add(step("end", 1, octets.size()));
        return steps;
    }

    private static List<Step> loaded(int s, String text) {
        String[] parts = text.split(";");
        String[] head = parts[0].trim().split("\\s+");
        List<Integer> octets = new ArrayList<>();
        put(octets, number(head[0]), 1);
        put(octets, parts.length - 1, 1);
        for (int i = 1; i < 4; i++) {
            put(octets, number(head[i]), 4);
        }
        for (int k = 1; k < parts.length; k++) {
            String[] of = parts[k].trim().split("\\s+");
            put(octets, number(of[0]), 2);
            put(octets, number(of[1]), 4);
            put(octets, number(of[2]), 4);
        }
        octets.add(check(octets));
        List<Step> steps = laid(octets);
        steps.add(step("read", parts.length - 1, s));
        return steps;
    }
}
