import java.io.IOException;
import java.nio.file.Files;
import java.nio.file.Path;
import java.util.ArrayList;
import java.util.LinkedHashMap;
import java.util.List;
import java.util.Map;

/** The document's own words, and which of them a test has been written for. */
final class Document {
    private static final Path PLACE = Path.of("../shared/DOC.md");
    private static final String HEADING = "## ";

    private final Map<String, String> sections = new LinkedHashMap<>();
    private final Map<String, boolean[]> tested = new LinkedHashMap<>();

    Document() throws IOException {
        String name = "";
        for (String line : Files.readString(PLACE).split("\n")) {
            if (line.startsWith(HEADING)) {
                name = line.substring(HEADING.length()).replaceAll(":.*", "").trim();
            } else if (!line.startsWith("```") && !line.startsWith("Ahead of the calls")) {
                // A promise begins with its call, as Java writes it: it names no edge.
                String words = line.replaceAll("^`[^`]*`: ", "").replaceAll("^=+ [0-9]", "");
                sections.merge(name, words, (ahead, behind) -> ahead + "\n" + behind);
            }
        }
        sections.forEach((section, text) -> tested.put(section, new boolean[text.length()]));
    }

    /** Marks words as tested where they stand first, of those that are not yet: whether they stand there. */
    boolean mark(String section, String words) {
        String text = sections.getOrDefault(section, "");
        for (int at = text.indexOf(words); at >= 0; at = text.indexOf(words, at + 1)) {
            if (!tested.get(section)[at]) {
                for (int i = at; i < at + words.length(); i++) {
                    tested.get(section)[i] = true;
                }
                return true;
            }
        }
        return false;
    }

    /** What the terms and the promises say, and no test has been written for. */
    List<String> untested() {
        List<String> rest = new ArrayList<>();
        for (String section : sections.keySet()) {
            if (section.equals("Terms") || section.startsWith("Promise ")) {
                StringBuilder left = new StringBuilder();
                for (int i = 0; i < sections.get(section).length(); i++) {
                    left.append(tested.get(section)[i] ? '\n' : sections.get(section).charAt(i));
                }
                for (String part : left.toString().split("\n+")) {
                    if (part.matches(".*[A-Za-z0-9].*")) {
                        rest.add(section + ": " + part.trim());
                    }
                }
            }
        }
        return rest;
    }
}
