import java.io.ByteArrayOutputStream;
import java.io.IOException;
import java.io.PrintStream;
import java.net.URL;
import java.net.URLClassLoader;
import java.nio.charset.StandardCharsets;
import java.nio.file.Files;
import java.nio.file.Path;
import java.util.regex.Matcher;
import java.util.regex.Pattern;
import java.util.stream.Stream;
import javax.tools.ToolProvider;

/** The example in README.md compiles with the class and prints what README.md says. */
public final class ReadmeTest {
    private static final Due due = new Due();

    public static void main(String[] args) throws Exception {
        String text = Files.readString(Path.of("README.md"));
        Matcher example = Pattern.compile("(?s)```java\n(.*?)```.*?```text\n(.*?)```").matcher(text);
        boolean found = example.find();
        due.holds("README.md has an example and what it prints", found);
        if (found) {
            Path work = Files.createTempDirectory("readme");
            due.same("the example's output", printed(work, example.group(1)), example.group(2));
            remove(work);
        }
        due.holds("README.md says how to run the tests", text.contains("    .ci/run\n"));
        everyTestIsNamed(text);
        due.end();
    }

    private static String printed(Path work, String program) throws Exception {
        Path file = work.resolve("Example.java");
        Files.writeString(file, program);
        int failed = ToolProvider.getSystemJavaCompiler().run(null, System.out, System.out,
                "-cp", System.getProperty("java.class.path"), "-d", work.toString(), file.toString());
        return failed != 0 ? "it does not compile\n" : run(work);
    }

    private static String run(Path work) throws Exception {
        PrintStream before = System.out;
        ByteArrayOutputStream said = new ByteArrayOutputStream();
        try (URLClassLoader loader = new URLClassLoader(new URL[] {work.toUri().toURL()})) {
            System.setOut(new PrintStream(said, true, StandardCharsets.UTF_8));
            loader.loadClass("Example").getMethod("main", String[].class).invoke(null, (Object) new String[0]);
        } finally {
            System.setOut(before);
        }
        return said.toString(StandardCharsets.UTF_8).replace(System.lineSeparator(), "\n");
    }

    private static void everyTestIsNamed(String text) throws IOException {
        try (Stream<Path> files = Files.list(Path.of("src/test/java"))) {
            files.map(f -> f.getFileName().toString().replace(".java", ""))
                    .forEach(name -> due.holds("README.md names " + name, text.contains("`" + name)));
        }
    }

    private static void remove(Path work) throws IOException {
        try (Stream<Path> files = Files.list(work)) {
            for (Path file : (Iterable<Path>) files::iterator) {
                Files.delete(file);
            }
        }
        Files.delete(work);
    }
}
