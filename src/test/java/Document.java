import java.io.IOException;
import java.io.UncheckedIOException;
import java.nio.file.Files;
import java.nio.file.Path;

/** The words of the document, so that a test can name the sentence that it tests and not a sentence of its own. */
final class Document {
    private static final String TEXT = read();

    private static String read() {
        try {
            return Files.readString(Path.of("../shared/DOC.md"));
        } catch (IOException e) {
            throw new UncheckedIOException(e);
        }
    }

    private static String oneLine(String s) {
        return s.replaceAll("\\s+", " ");
    }

    /** Whether the words stand in the section; however its lines are broken. */
    static boolean says(String section, String words) {
        for (String part : TEXT.split("(?m)^## ")) {
            if (part.startsWith(section + "\n") || part.startsWith(section + ":")) {
                return oneLine(part).contains(words);
            }
        }
        return false;
    }
}
