import java.io.IOException;
import java.nio.file.Files;
import java.nio.file.Path;
import java.util.ArrayList;
import java.util.List;
import java.util.TreeMap;
import java.util.stream.Stream;

/**
 * The document sentence by sentence, each with its boundary cases, from the files in
 * src/test/boundaries; how a line of them reads stands in helpers/Steps.
 *
 * <p>A line "## .." names a section of the document, lines "&gt; .." quote words of it: a new object
 * gets the calls below. A line "--" makes a new object for the same words, "let" names a piece of
 * text, and what stands behind "//" is for the reader. What is quoted must stand in the document, and
 * every sentence of the Terms and of the promises must be quoted. After each run it is asked whether
 * the refused calls and the questions left all as it was (helpers/Twins).
 */
public final class Boundaries {
    private static final Path FILES = Path.of("src/test/boundaries");
    private static final Path DOCUMENT = Path.of("../shared/DOC.md");

    private static int wrong = 0;
    private static int asked = 0;
    private static int objects = 0;

    private final Path file;
    private final Sentences sentences;
    private final TreeMap<String, String> named = new TreeMap<>();
    private final List<Step> run = new ArrayList<>();
    private HeavyThings x = new HeavyThings();
    private String heading = "";
    private String words = "";
    private boolean quoting = false;
    private int line = 0;

    private Boundaries(Path file, Sentences sentences) {
        this.file = file;
        this.sentences = sentences;
    }

    private void tell(String what) {
        wrong++;
        System.out.println(file.getFileName() + ":" + line + ": " + what);
        System.out.println("    " + heading + ": \"" + words + "\"");
    }

    private void ask(Step step) {
        asked++;
        run.add(step);
        int got = step.answer(x);
        if (got != step.want) {
            tell(step + " answered " + got + ", due is " + step.want);
        }
    }

    private void endRun() {
        if (run.isEmpty()) {
            return;
        }
        objects++;
        if (run.size() > Twins.MOST_CALLS) {
            tell(run.size() + " calls on one object");
        }
        String parting = Twins.parting(run);
        if (parting != null) {
            tell(parting);
        }
        run.clear();
        x = new HeavyThings();
    }

    private void quote(String quoted) {
        words = quoting ? words + " " + quoted : quoted;
        if (!sentences.quote(heading, quoted)) {
            tell("the document does not say so");
        }
    }

    private String withNames(String text) {
        String whole = text;
        for (String name : named.keySet()) {
            whole = whole.replaceAll("\\b" + name + "\\b", named.get(name));
        }
        return whole;
    }

    private void askAll(String text) {
        try {
            for (Step step : Steps.of(withNames(text))) {
                ask(step);
            }
        } catch (IllegalArgumentException e) {
            tell("can't be read: " + e.getMessage());
        }
    }

    private void take(String text) {
        if (text.startsWith("## ") || text.equals("--") || (text.startsWith("> ") && !quoting)) {
            endRun();
        }
        if (text.startsWith("## ")) {
            heading = text.substring(3);
        } else if (text.startsWith("> ")) {
            quote(text.substring(2));
        } else if (text.startsWith("let ")) {
            String[] parts = text.substring(4).split(" = ");
            named.put(parts[0], parts[1]);
        } else if (!text.isEmpty() && !text.equals("--")) {
            askAll(text);
        }
        quoting = text.startsWith("> ");
    }

    private void read() throws IOException {
        for (String text : Files.readAllLines(file)) {
            line++;
            take(text.replaceAll("//.*", "").trim());
        }
        endRun();
    }

    public static void main(String[] args) throws IOException {
        Sentences sentences = new Sentences(DOCUMENT);
        List<Path> files;
        try (Stream<Path> found = Files.list(FILES)) {
            files = found.filter(f -> f.toString().endsWith(".txt")).sorted().toList();
        }
        for (Path file : files) {
            new Boundaries(file, sentences).read();
        }
        for (String left : sentences.left()) {
            wrong++;
            System.out.println("no test quotes " + left);
        }
        System.out.println(objects + " runs, " + asked + " answers asked, " + wrong + " not as due");
        if (wrong != 0) {
            System.exit(1);
        }
    }
}
