import java.io.IOException;
import java.nio.file.Files;
import java.nio.file.Path;
import java.util.ArrayList;
import java.util.List;
import java.util.Set;
import java.util.TreeSet;
import java.util.regex.Matcher;
import java.util.regex.Pattern;
import java.util.stream.Stream;

/** What README.md says of the use of the class and of its tests is so. */
public final class Readme {
    private static final Path README = Path.of("README.md");
    private static final Path DOCUMENT = Path.of("../shared/DOC.md");
    private static final Path TESTS = Path.of("src/test/java");
    private static final String MADE = "HeavyThings heavy = new HeavyThings();";
    private static final Pattern CALL = Pattern.compile("heavy\\.(\\w+\\([^;]*\\)); +// ([^ :]+)(: .+)?");

    private static int wrong = 0;
    private static int asked = 0;

    private static void check(boolean holds, String what) {
        if (!holds) {
            wrong++;
            System.out.println(what);
        }
    }

    private static List<String> blocks(String page, String kind) {
        List<String> all = new ArrayList<>();
        Matcher m = Pattern.compile("(?s)```" + kind + "\n(.*?)```").matcher(page);
        while (m.find()) {
            all.add(m.group(1));
        }
        check(!all.isEmpty(), "README.md has no block of " + kind);
        return all;
    }

    private static void ask(HeavyThings x, String line) {
        try {
            for (Step step : Steps.of(line)) {
                asked++;
                int got = step.answer(x);
                check(got == step.want, step + " answers " + got + ", README.md says " + step.want);
            }
        } catch (IllegalArgumentException e) {
            check(false, "can't be read: " + e.getMessage());
        }
    }

    private static void examples(String page) {
        for (String block : blocks(page, "java")) {
            check(block.startsWith(MADE + "\n"), "an example begins without a new object");
            HeavyThings x = new HeavyThings();
            for (String line : block.substring(MADE.length()).trim().split("\n")) {
                Matcher m = CALL.matcher(line);
                if (m.matches()) {
                    ask(x, m.group(1).replace("HeavyThings.NONE", "NONE") + " = " + m.group(2));
                } else {
                    check(false, "no call with its answer: " + line);
                }
            }
        }
    }

    private static void boundaryCases(String page) throws IOException {
        Sentences sentences = new Sentences(DOCUMENT);
        for (String block : blocks(page, "text")) {
            HeavyThings x = new HeavyThings();
            String heading = "";
            for (String line : block.split("\n")) {
                if (line.startsWith("## ")) {
                    heading = line.substring(3);
                } else if (line.startsWith("> ")) {
                    check(sentences.quote(heading, line.substring(2)), "the document does not say so: " + line);
                } else {
                    ask(x, line);
                }
            }
        }
    }

    private static Set<String> found(String text, String pattern) {
        Set<String> all = new TreeSet<>();
        Matcher m = Pattern.compile(pattern).matcher(text);
        while (m.find()) {
            check(all.add(m.group(1)), "there twice: " + m.group(1));
        }
        return all;
    }

    private static void callsTold(String page) throws IOException {
        String document = Files.readString(DOCUMENT);
        String face = document.substring(document.indexOf("public final class"), document.indexOf("## Terms"));
        Set<String> due = found(face.replaceAll("\\b(int|boolean) (?=\\w+[,)])", ""), "public (?:int|boolean) (\\w+\\([^)]+\\));");
        Set<String> told = found(page, "`(\\w+\\([^`]+\\))`");
        check(told.equals(due), "the calls told are " + told + ", those of the document " + due);
    }

    private static void testsTold(String page) throws IOException {
        Set<String> told = found(page, "\n\\| `([A-Z]\\w+)` \\|");
        Set<String> due = new TreeSet<>();
        try (Stream<Path> files = Files.list(TESTS)) {
            files.map(f -> f.getFileName().toString()).filter(f -> f.endsWith(".java")).forEach(f -> due.add(f.replace(".java", "")));
        }
        check(told.equals(due), "the tests told are " + told + ", those of the project " + due);
    }

    private static void pathsTold(String page) {
        Matcher m = Pattern.compile("[`\\s]((?:\\.\\./shared|\\.ci|src)/[\\w/.]*)").matcher(page);
        int paths = 0;
        while (m.find()) {
            paths++;
            check(Files.exists(Path.of(m.group(1))), "there is no " + m.group(1));
        }
        check(paths > 0, "README.md tells no path");
        check(Files.isExecutable(Path.of(".ci/run")), ".ci/run can't be run");
    }

    public static void main(String[] args) throws IOException {
        String page = Files.readString(README);
        examples(page);
        boundaryCases(page);
        callsTold(page);
        testsTold(page);
        pathsTold(page);
        System.out.println(asked + " answers of README.md asked, " + wrong + " things on it not so");
        if (wrong != 0) {
            System.exit(1);
        }
    }
}
