import java.io.IOException;
import java.nio.file.Files;
import java.nio.file.Path;
import java.util.ArrayList;
import java.util.BitSet;
import java.util.List;
import java.util.TreeMap;

/** The sections of the document, and which words of them have been quoted by a test. */
final class Sentences {
    private final TreeMap<String, String> texts = new TreeMap<>();
    private final TreeMap<String, BitSet> quoted = new TreeMap<>();

    Sentences(Path document) throws IOException {
        String heading = "";
        StringBuilder text = new StringBuilder();
        for (String line : Files.readAllLines(document)) {
            if (line.startsWith("#")) {
                close(heading, text);
                heading = line.replaceAll("^#+ ", "").trim();
                text = new StringBuilder();
            } else if (!line.startsWith("```") && !line.startsWith("Ahead of the calls")) {
                // how a promise's call is written and what stands ahead of a group of calls is for FaceAndLanguage
                text.append(line.replaceAll("^`[^`]*`: ", "").trim()).append(' ');
            }
        }
        close(heading, text);
    }

    private void close(String heading, StringBuilder text) {
        texts.put(heading, text.toString().replaceAll("\\s+", " ").trim());
        quoted.put(heading, new BitSet());
    }

    /** Marks the words as quoted; false when the section has them not. */
    boolean quote(String heading, String words) {
        String text = texts.getOrDefault(heading, "");
        int at = text.indexOf(words);
        if (at < 0 || words.isEmpty()) {
            return false;
        }
        for (int from = at; from >= 0; from = text.indexOf(words, from + 1)) {
            quoted.get(heading).set(from, from + words.length());
        }
        return true;
    }

    /** What no test has quoted of the Terms and of the promises. */
    List<String> left() {
        List<String> left = new ArrayList<>();
        for (String heading : texts.keySet()) {
            if (heading.equals("Terms") || heading.startsWith("Promise ")) {
                String text = texts.get(heading);
                BitSet marks = quoted.get(heading);
                for (int from = marks.nextClearBit(0); from < text.length(); from = marks.nextClearBit(from)) {
                    int to = marks.nextSetBit(from) < 0 ? text.length() : marks.nextSetBit(from);
                    if (text.substring(from, to).matches(".*[A-Za-z0-9].*")) {
                        left.add(heading + ": " + text.substring(from, to).trim());
                    }
                    from = to;
                }
            }
        }
        return left;
    }
}
