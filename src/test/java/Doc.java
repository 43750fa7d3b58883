import java.io.IOException;
import java.io.UncheckedIOException;
import java.nio.charset.StandardCharsets;
import java.nio.file.Files;
import java.nio.file.Path;
import java.util.LinkedHashMap;
import java.util.Map;

/** The document, cut into its terms (I to IV) and its promises (1 to 39). */
final class Doc {
    static final int PROMISES = 39;
    private static final String[] TERMS = {"I", "II", "III", "IV"};
    private static final Map<String, String> SECTIONS = read();

    private Doc() {
    }

    static boolean says(String section, String words) {
        return SECTIONS.getOrDefault(section, "").contains(words);
    }

    private static Map<String, String> read() {
        String text;
        try {
            text = Files.readString(Path.of("../shared/DOC.md"), StandardCharsets.UTF_8);
        } catch (IOException e) {
            throw new UncheckedIOException(e);
        }
        Map<String, String> sections = new LinkedHashMap<>();
        for (int i = 0; i < TERMS.length; i++) {
            String next = i + 1 < TERMS.length ? "\n" + TERMS[i + 1] + ". " : "\nThe constants:";
            sections.put(TERMS[i], between(text, "\n" + TERMS[i] + ". ", next));
        }
        for (int n = 1; n <= PROMISES; n++) {
            String next = n < PROMISES ? "\n## Promise " + (n + 1) + ":" : "\n## Not promised";
            sections.put(String.valueOf(n), between(text, "\n## Promise " + n + ":", next));
        }
        return sections;
    }

    private static String between(String text, String from, String to) {
        int start = text.indexOf(from);
        int stop = text.indexOf(to, Math.max(0, start));
        return start < 0 || stop < 0 ? "" : text.substring(start, stop).replaceAll("\\s+", " ");
    }
}
