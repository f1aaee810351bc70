import java.io.IOException;
import java.nio.file.Files;
import java.nio.file.Path;
import java.util.LinkedHashMap;
import java.util.Map;

/** The words of ../shared/DOC.md, section by section, and which of them a test has quoted so far. */
final class Document {
    private static final Path PLACE = Path.of("../shared/DOC.md");

    private final Map<String, String> sections = new LinkedHashMap<>();
    private final Map<String, boolean[]> quoted = new LinkedHashMap<>();

    Document() throws IOException {
        for (String part : Files.readString(PLACE).split("(?m)^## ")) {
            int end = part.indexOf('\n');
            String name = part.substring(0, end).replaceAll(":.*", "").trim();
            if (name.equals("What it is") || name.equals("Terms") || name.startsWith("Promise ")) {
                String words = plain(part.substring(end));
                sections.put(name, words);
                quoted.put(name, new boolean[words.length()]);
            }
        }
    }

    /** Without fences, the signature at a promise's head, and breaks of lines. */
    private static String plain(String text) {
        return text.replaceAll("```(text)?", " ").replaceAll("(?m)^`[^`]*\\)`: ", " ").replace("========", " ")
                .replaceAll("\\s+", " ").trim();
    }

    /** Marks these words as quoted; false if the section has no such words. Words that come twice are marked one by one. */
    boolean quote(String section, String words) {
        String text = sections.get(section);
        if (text == null || words.isEmpty()) {
            return false;
        }
        boolean[] marks = quoted.get(section);
        int at = text.indexOf(words);
        while (at >= 0 && marks[at] && text.indexOf(words, at + 1) >= 0) {
            at = text.indexOf(words, at + 1);
        }
        if (at < 0) {
            return false;
        }
        for (int i = at; i < at + words.length(); i++) {
            marks[i] = true;
        }
        return true;
    }

    int sectionCount() {
        return sections.size();
    }

    /** The words that no test has quoted, or an empty text. */
    String notQuoted() {
        StringBuilder rest = new StringBuilder();
        for (Map.Entry<String, String> section : sections.entrySet()) {
            boolean[] marks = quoted.get(section.getKey());
            StringBuilder words = new StringBuilder();
            for (int i = 0; i < marks.length; i++) {
                words.append(marks[i] ? ' ' : section.getValue().charAt(i));
            }
            String left = words.toString().replaceAll("\\s+", " ").trim();
            if (!left.isEmpty()) {
                rest.append(section.getKey()).append(": ").append(left).append("; ");
            }
        }
        return rest.toString();
    }
}
