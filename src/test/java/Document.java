import java.io.IOException;
import java.nio.file.Files;
import java.nio.file.Path;
import java.util.ArrayList;
import java.util.Arrays;
import java.util.LinkedHashMap;
import java.util.List;
import java.util.Map;

/** The document's sections as they stand in DOC.md, and which of their words a test has named. */
final class Document {
    private final Map<String, String> sections = new LinkedHashMap<>();
    private final Map<String, boolean[]> named = new LinkedHashMap<>();

    Document(Path file) throws IOException {
        String section = "";
        for (String line : Files.readAllLines(file)) {
            if (line.startsWith("## ") || line.matches("[A-Z][A-Z, ]+")) {
                section = line.startsWith("## Promise") ? line.substring(3, line.indexOf(':')) : line.replace("## ", "");
            } else if (!line.startsWith("# ") && !line.startsWith("Ahead of the calls") && !line.startsWith("```")) {
                sections.merge(section, plain(line) + "\n", String::concat);
            }
        }
        sections.forEach((name, text) -> named.put(name, new boolean[text.length()]));
    }

    /** A line without what LanguageTest looks at: the signature that a promise begins with. */
    private static String plain(String line) {
        return line.replaceFirst("^`[^`]*\\)`: ", "").replaceFirst("^- ", "").trim();
    }

    /** Whether the section has these words; from now on they are named. */
    boolean name(String section, String words) {
        String text = sections.getOrDefault(section, "");
        int at = text.indexOf(words);
        for (int from = at; from >= 0; from = text.indexOf(words, from + 1)) {
            Arrays.fill(named.get(section), from, from + words.length(), true);
        }
        return at >= 0;
    }

    List<String> sections() {
        return List.copyOf(sections.keySet());
    }

    /** What no test has named, but for signs that are no letters. */
    List<String> unnamed(String section) {
        List<String> found = new ArrayList<>();
        String text = sections.getOrDefault(section, "");
        StringBuilder words = new StringBuilder();
        for (int i = 0; i <= text.length(); i++) {
            if (i < text.length() && text.charAt(i) != '\n' && !named.get(section)[i]) {
                words.append(text.charAt(i));
                continue;
            }
            if (words.toString().matches(".*[A-Za-z0-9].*")) {
                found.add(words.toString());
            }
            words.setLength(0);
        }
        return found;
    }
}
