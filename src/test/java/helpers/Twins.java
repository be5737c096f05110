import java.util.ArrayList;
import java.util.List;

/**
 * "Refused, nothing changes": an object that got every call of a run and one that got only those that
 * change something must answer alike, whatever is asked. Each page of questions has objects of its
 * own, so that none gets more than 512 calls.
 */
final class Twins {
    static final int MOST_CALLS = 512;
    private static final List<List<Step>> PAGES = pages();

    private Twins() {
    }

    private static List<Step> page(String... lines) {
        List<Step> steps = new ArrayList<>();
        for (String line : lines) {
            // the answers are compared, so none is due
            steps.addAll(Steps.of(line + " = 0"));
        }
        return steps;
    }

    private static List<List<Step>> pages() {
        List<List<Step>> all = new ArrayList<>();
        all.add(page("has(0..5, 0..10)", "fault(0..1)"));
        for (int s = 0; s < 6; s++) {
            all.add(page("counter(" + s + ", 0..23, 0..2)"));
            all.add(page("gone(" + s + ", 0..19, 0..2)"));
            all.add(page("group(" + s + ", 100, 0..99, 3)"));
            all.add(page("truest(" + s + ", 0..49, 0..1)"));
        }
        for (int v = 0; v < 2; v++) {
            all.add(page("pane(" + v + ", 0..5, 0..3)"));
            for (int n = 1; n <= 6; n++) {
                all.add(page("gather(5, " + v + ", " + n + ")", "has(5, 0..10)", "counter(5, 0..23, 0..2)"));
            }
            all.add(page("turn(" + v + ")", "pane(" + v + ", 0..5, 0..3)"));
            all.add(page("back(" + v + ")", "has(0..5, 0..10)"));
            for (int s = 0; s < 6; s++) {
                all.add(page("back(" + v + ")", "counter(" + s + ", 0..23, 0..2)"));
                all.add(page("back(" + v + ")", "gone(" + s + ", 0..19, 0..2)"));
                all.add(page("back(" + v + ")", "truest(" + s + ", 0..49, 0..1)"));
            }
        }
        all.add(page("octet(0..99)"));
        all.add(page("octet(100..199)"));
        all.add(page("octet(200..255)"));
        all.add(page("feed(0, 0, 0)", "end(300)", "end(0)"));
        all.add(page("read(5)", "fault(0..1)", "has(5, 0..10)", "counter(5, 0..23, 0..2)"));
        return all;
    }

    /** The first question that the two answer in two ways, or null. */
    static String parting(List<Step> run) {
        for (List<Step> page : PAGES) {
            if (run.size() + page.size() > MOST_CALLS) {
                continue;
            }
            HeavyThings whole = new HeavyThings();
            HeavyThings changed = new HeavyThings();
            for (Step step : run) {
                step.answer(whole);
                if (step.changes()) {
                    step.answer(changed);
                }
            }
            for (Step question : page) {
                int got = question.answer(whole);
                int want = question.answer(changed);
                if (got != want) {
                    return question + " answered " + got + ", without the refused calls and the questions " + want;
                }
            }
        }
        return null;
    }
}
