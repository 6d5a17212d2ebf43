import java.io.IOException;
import java.net.URL;
import java.net.URLClassLoader;
import java.nio.file.DirectoryStream;
import java.nio.file.Files;
import java.nio.file.Path;
import java.util.ArrayList;
import java.util.List;
import java.util.regex.Matcher;
import java.util.regex.Pattern;
import javax.tools.ToolProvider;

/** README.md: its examples are compiled as one run of calls and answer what it says; it names every test. */
public final class ReadmeTest {
    private static final Path README = Path.of("README.md");
    private static final Path TESTS = Path.of("src/test/java");
    private static final Pattern BLOCK = Pattern.compile("(?s)```java\\n(.*?)```");
    private static final Pattern ASKED = Pattern.compile("(x\\.\\w+\\([^)]*\\)); +// (-?\\d+)\\b.*");

    private final StringBuilder program = new StringBuilder();
    private final List<String> calls = new ArrayList<>();
    private final List<Integer> due = new ArrayList<>();

    private ReadmeTest() {
    }

    public static void main(String[] args) throws Exception {
        String readme = Files.readString(README);
        new ReadmeTest().checkExamples(readme);
        checkNames(readme);
        Due.close();
    }

    private void checkExamples(String readme) throws Exception {
        Matcher block = BLOCK.matcher(readme);
        while (block.find()) {
            for (String line : block.group(1).split("\n")) {
                write(line);
            }
        }
        Due.holds("the examples ask something", calls.size() > 20);
        int[] got = answers();
        Due.is("answers", got.length, calls.size());
        for (int i = 0; i < got.length; i++) {
            Due.is("README.md: " + calls.get(i), got[i], due.get(i));
        }
    }

    private void write(String line) {
        Matcher asked = ASKED.matcher(line);
        if (asked.matches()) {
            calls.add(asked.group(1));
            due.add(Integer.valueOf(asked.group(2)));
            program.append("got[n++] = ").append(asked.group(1)).append(";\n");
        } else {
            Due.holds("an answer that is not looked at: " + line, !line.startsWith("x."));
            program.append(line).append('\n');
        }
    }

    private int[] answers() throws Exception {
        Path folder = Files.createTempDirectory("readme");
        Path source = folder.resolve("ReadmeExamples.java");
        Files.writeString(source, "public class ReadmeExamples { public static int[] run() {\n"
                + "int[] got = new int[" + calls.size() + "]; int n = 0;\n" + program + "return got; } }\n");
        int answer = ToolProvider.getSystemJavaCompiler().run(null, null, null,
                "-proc:none", "-cp", System.getProperty("java.class.path"), "-d", folder.toString(), source.toString());
        Due.is("the examples are compiled", answer, 0);
        if (answer != 0) {
            return new int[0];
        }
        try (URLClassLoader loader = new URLClassLoader(new URL[] {folder.toUri().toURL()})) {
            return (int[]) loader.loadClass("ReadmeExamples").getMethod("run").invoke(null);
        } finally {
            Files.deleteIfExists(folder.resolve("ReadmeExamples.class"));
            Files.deleteIfExists(source);
            Files.deleteIfExists(folder);
        }
    }

    private static void checkNames(String readme) throws IOException {
        Due.holds("README.md tells how to run the tests", readme.contains(".ci/run"));
        Due.holds("README.md tells of the shared tests", readme.contains("../shared/tests"));
        try (DirectoryStream<Path> tests = Files.newDirectoryStream(TESTS, "*Test.java")) {
            for (Path test : tests) {
                String name = TESTS + "/" + test.getFileName();
                Due.holds("README.md names " + name, readme.contains("`" + name + "`"));
            }
        }
    }
}
