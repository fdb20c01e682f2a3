import java.io.IOException;
import java.nio.file.Files;
import java.nio.file.Path;
import java.util.List;
import java.util.regex.Pattern;

/** Rules of LANGUAGE.md that can be seen in the text of the class. */
public final class LanguageTest {
    private static final String[] NEVER = {
        "\\bcatch\\b", "\\btry\\b", "\\bfinally\\b", "->", "::", "\\bsynchronized\\b", "\\bassert\\b", "\\bpackage\\b",
        "static \\{", "\\w+Exact\\(", "\\bprotected\\b", "\\bObject\\b", "\\bfloat\\b", "\\bdouble\\b", "System\\.(?!arraycopy)",
    };
    private static final int LONGEST = 60;

    public static void main(String[] args) throws IOException {
        Check check = new Check();
        List<String> lines = Files.readAllLines(Path.of("src/main/java/ClassPools.java"));
        for (String never : NEVER) {
            long found = lines.stream().filter(Pattern.compile(never).asPredicate()).count();
            check.due("lines with " + never, found, 0);
        }
        long imports = lines.stream().filter(l -> l.startsWith("import ")).count();
        check.due("imports", imports, lines.contains("import java.util.Arrays;") ? 1 : 0);
        int from = 0;
        for (int i = 0; i < lines.size(); i++) {
            String line = lines.get(i);
            if (line.matches(" {4}( {4})?\\S.*\\) (throws .*)?\\{") || line.matches(" {4}public long .*")) {
                from = i;
            }
            if (line.matches(" {4}( {4})?\\}")) {
                check.due("a method that ends in line " + (i + 1) + " is short", i - from < LONGEST ? 1 : 0, 1);
                from = i;
            }
        }
        check.end();
    }
}
