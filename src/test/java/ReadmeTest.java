import java.io.ByteArrayOutputStream;
import java.io.File;
import java.io.IOException;
import java.io.PrintStream;
import java.net.URL;
import java.net.URLClassLoader;
import java.nio.file.Files;
import java.nio.file.Path;
import java.util.ArrayList;
import java.util.List;
import java.util.regex.Matcher;
import java.util.regex.Pattern;
import javax.tools.JavaCompiler;
import javax.tools.ToolProvider;

/** README.md says how to use the class: its example does what it says, and its tables tell what the document tells. */
public final class ReadmeTest {
    private static final String README = Document.read("README.md");

    private static final Check check = new Check();

    public static void main(String[] args) throws IOException, ReflectiveOperationException {
        example();
        calls();
        constants();
        faults();
        exceptions();
        tests();
        check.end();
    }

    /** What stands between the first such line behind the heading and the end of its block. */
    private static String block(String heading, String begin) {
        int from = README.indexOf(begin + "\n", Math.max(0, README.indexOf(heading))) + begin.length() + 1;
        return README.substring(from, README.indexOf("```", from));
    }

    /** What the pattern's groups find in README.md, a space between them. */
    private static List<String> found(String pattern) {
        List<String> all = new ArrayList<>();
        Matcher m = Pattern.compile(pattern, Pattern.MULTILINE).matcher(README);
        while (m.find()) {
            all.add(m.groupCount() == 1 ? m.group(1) : m.group(1) + " " + m.group(2));
        }
        return all;
    }

    private static void example() throws IOException, ReflectiveOperationException {
        Path directory = Files.createTempDirectory("readme");
        Path source = directory.resolve("Example.java");
        Path made = directory.resolve("Example.class");
        Files.writeString(source, block("### An example", "```java"));
        JavaCompiler compiler = ToolProvider.getSystemJavaCompiler();
        String path = System.getProperty("java.class.path");
        check.due("whether the example compiles",
            compiler.run(null, null, null, "-cp", path, "-d", directory.toString(), source.toString()), 0);
        check.due("what the example prints", printed(directory), block("### An example", "```text"));
        for (Path gone : new Path[] {source, made, directory}) {
            Files.deleteIfExists(gone);
        }
    }

    private static String printed(Path directory) throws IOException, ReflectiveOperationException {
        PrintStream out = System.out;
        ByteArrayOutputStream to = new ByteArrayOutputStream();
        try (URLClassLoader loader = new URLClassLoader(new URL[] {directory.toUri().toURL()})) {
            System.setOut(new PrintStream(to, true));
            loader.loadClass("Example").getMethod("main", String[].class).invoke(null, (Object) new String[0]);
        } finally {
            System.setOut(out);
        }
        return to.toString().replace(System.lineSeparator(), "\n");
    }

    private static void calls() {
        List<String> want = new ArrayList<>();
        Matcher m = Pattern.compile("public (?:int|long) (\\w+\\()([^)]*\\))").matcher(Document.sections().get("The public face"));
        while (m.find()) {
            want.add(m.group(1) + m.group(2).replaceAll("(int|long) ", ""));
        }
        check.due("calls in the document", want.size(), 18);
        check.due("calls in README.md", found("^\\| `(\\w+\\([^)]*\\))` \\|").toString(), want.toString());
    }

    private static void constants() {
        check.due("constants in README.md", found("^\\| (-\\d) \\| `ClassPools\\.(\\w+)` \\|").toString(),
            List.of(ClassPools.NONE + " NONE", ClassPools.BAD + " BAD", ClassPools.FULL + " FULL").toString());
    }

    private static void faults() {
        List<String> rows = found("^\\| (-\\d\\d) \\| ([A-Z]+): ");
        check.due("faults in README.md", rows.size(), 10);
        for (int n = 1; n <= rows.size(); n++) {
            String[] row = rows.get(n - 1).split(" ");
            check.due("fault " + n, Integer.parseInt(row[0]), -20 - n);
            check.due("whether fault " + n + " is the document's", Document.says("Terms", " " + n + " " + row[1]) ? 1 : 0, 1);
        }
    }

    private static void exceptions() throws ReflectiveOperationException {
        List<String> want = new ArrayList<>();
        for (Class<?> e : ClassPools.class.getMethod("number", int.class, int.class).getExceptionTypes()) {
            want.add(e.getSimpleName());
        }
        check.due("exceptions in README.md", found("^\\| `(\\w+Exception)` \\|").toString(), want.toString());
    }

    private static void tests() {
        check.due("whether .ci/run is named", README.contains("`.ci/run`") ? 1 : 0, 1);
        for (File test : new File("src/test/java").listFiles()) {
            String name = test.getName().replace(".java", "");
            check.due("whether " + name + " is named", !name.endsWith("Test") || README.contains("`" + name + "`") ? 1 : 0, 1);
        }
    }
}
