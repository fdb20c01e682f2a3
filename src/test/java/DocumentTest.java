import java.io.File;
import java.util.Arrays;
import java.util.LinkedHashMap;
import java.util.Map;
import java.util.regex.Matcher;
import java.util.regex.Pattern;

/** The document from its first line on: a test names each of its sentences, but for those that ask for no answer. */
public final class DocumentTest {
    private static final Pattern NAMED = Pattern.compile("check\\.of\\((?:\"([^\"]+)\"|(FACE)), \"([^\"]+)\"\\)");
    /** What is summed up, is free, is a heading, or is compared as a whole: FaceTest has the methods. */
    private static final String[] ASK_NOTHING = {
        "Files of classes with pools, read by a reader .* or in what they mean\\.", "what later calls answer is free\\.",
        "```(java|text)?", "FAULTS of a FILE\\.", "`[^`]+\\([^`]*\\)[^`]*`:", "public int \\w+\\([^)]*\\);", "How the state is held .*",
    };

    public static void main(String[] args) {
        Check check = new Check();
        Map<String, char[]> left = new LinkedHashMap<>();
        Document.sections().forEach((name, words) -> left.put(name, words.toCharArray()));
        File[] tests = new File("src/test/java").listFiles((directory, name) -> name.endsWith("Test.java"));
        check.due("whether there are tests", tests == null || tests.length == 0 ? 0 : 1, 1);
        for (File test : tests) {
            takeNamed(Document.read(test.getPath()), left);
        }
        left.forEach((name, words) -> check.due("what no test names of " + name, unnamed(new String(words)), ""));
        check.end();
    }

    /** Takes the words that a test names out of their sections. */
    private static void takeNamed(String test, Map<String, char[]> left) {
        Matcher m = NAMED.matcher(test.replaceAll("\"\\s*\\+\\s*\"", ""));
        while (m.find()) {
            String section = m.group(1) == null ? "The public face" : m.group(1);
            int from = Document.sections().getOrDefault(section, "").indexOf(m.group(3));
            if (from >= 0) {
                Arrays.fill(left.get(section), from, from + m.group(3).length(), '#');
            }
        }
    }

    private static String unnamed(String words) {
        String left = words;
        for (String nothing : ASK_NOTHING) {
            left = left.replaceAll(nothing, "");
        }
        return left.replaceAll("[#\\s.,;:{}]+", " ").trim();
    }
}
