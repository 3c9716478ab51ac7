import java.io.IOException;
import java.nio.file.Files;
import java.nio.file.Path;
import java.util.ArrayList;
import java.util.HashMap;
import java.util.LinkedHashMap;
import java.util.List;
import java.util.Map;

/** The document's sections, and which of their words a test has quoted. */
final class Document {
    private static final Path PLACE = Path.of("../shared/DOC.md");
    /** The face is LanguageTest's, and of what is not promised there is nothing to test. */
    private static final List<String> ASIDE = List.of("", "The public face", "Not promised");

    private final Map<String, String> sections = new LinkedHashMap<>();
    private final Map<String, boolean[]> quoted = new HashMap<>();

    Document() throws IOException {
        String section = "";
        for (String line : Files.readAllLines(PLACE)) {
            String text = line;
            if (line.startsWith("## ")) {
                section = line.substring(3).replaceAll(":.*", "");
                text = "";
            } else if (line.startsWith("```")) {
                text = "";
            } else if (line.matches("I+\\. .*")) {
                section = "Terms " + line.substring(0, line.indexOf('.'));
                text = line.substring(line.indexOf('.') + 1);
            } else if (line.startsWith("The constants: ")) {
                section = "Terms";
            }
            // a promise begins with its call, which is no sentence
            String more = text.replaceFirst("^`[^`]*\\)`: ", "").strip();
            if (!more.isEmpty() && !ASIDE.contains(section)) {
                sections.merge(section, more, (ahead, behind) -> ahead + " " + behind);
            }
        }
        for (Map.Entry<String, String> entry : sections.entrySet()) {
            quoted.put(entry.getKey(), new boolean[entry.getValue().length()]);
        }
    }

    /** The section in which the quote stands, the promise's own one first; "" if it stands nowhere, or twice there. */
    String sectionOf(int promise, String quote) {
        List<String> order = new ArrayList<>(List.of("Promise " + promise));
        for (String section : sections.keySet()) {
            if (!section.startsWith("Promise ")) {
                order.add(section);
            }
        }
        for (String section : order) {
            String text = sections.getOrDefault(section, "");
            int at = text.indexOf(quote);
            if (at >= 0) {
                return at == text.lastIndexOf(quote) ? section : "";
            }
        }
        return "";
    }

    void mark(String section, String quote) {
        int at = sections.get(section).indexOf(quote);
        for (int i = at; i < at + quote.length(); i++) {
            quoted.get(section)[i] = true;
        }
    }

    /** Each run of words that no test has quoted, with its section. */
    List<String> unquoted() {
        List<String> runs = new ArrayList<>();
        for (Map.Entry<String, String> entry : sections.entrySet()) {
            boolean[] marks = quoted.get(entry.getKey());
            StringBuilder rest = new StringBuilder();
            for (int i = 0; i < marks.length; i++) {
                rest.append(marks[i] ? '\n' : entry.getValue().charAt(i));
            }
            for (String run : rest.toString().split("\n+")) {
                if (run.matches(".*\\w.*")) {
                    runs.add(entry.getKey() + ": " + run.strip());
                }
            }
        }
        return runs;
    }
}
