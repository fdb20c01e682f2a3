import java.io.IOException;
import java.io.UncheckedIOException;
import java.nio.file.Files;
import java.nio.file.Path;
import java.util.LinkedHashMap;
import java.util.Map;

/** The words of the document, so that a test can name the sentence that it tests and not a sentence of its own. */
final class Document {
    private static final Map<String, String> SECTIONS = sections(read("../shared/DOC.md"));

    static String read(String file) {
        try {
            return Files.readString(Path.of(file));
        } catch (IOException e) {
            throw new UncheckedIOException(e);
        }
    }

    /** The sections by their names, a promise's by "Promise" and its number; however their lines are broken. */
    private static Map<String, String> sections(String text) {
        Map<String, String> all = new LinkedHashMap<>();
        for (String part : text.split("(?m)^## ")) {
            String[] parts = part.split("\n", 2);
            all.put(parts[0].split(":")[0], oneLine(parts[1]));
        }
        return all;
    }

    private static String oneLine(String s) {
        return s.replaceAll("\\s+", " ");
    }

    static Map<String, String> sections() {
        return SECTIONS;
    }

    /** Whether the words stand in the section. */
    static boolean says(String section, String words) {
        return SECTIONS.getOrDefault(section, "").contains(words);
    }
}
