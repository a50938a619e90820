import java.io.ByteArrayOutputStream;
import java.io.IOException;
import java.io.PrintStream;
import java.net.URL;
import java.net.URLClassLoader;
import java.nio.charset.StandardCharsets;
import java.nio.file.Files;
import java.nio.file.Path;
import java.util.List;
import javax.tools.ToolProvider;

/** The example of README.md, so that it cannot say what is no longer so; run in the project's directory. */
final class ReadmeTest {
    public static void main(String[] args) throws Exception {
        Check.about("README.md", "It answers:");
        List<String> readme = Files.readAllLines(Path.of("README.md"));
        List<String> due = block(readme, "```text");
        Check.same("what the example answers", answers(block(readme, "```java")), due);
        Check.same("it answers something", due.isEmpty() ? 0 : 1, 1);
        Check.finish();
    }

    /** The lines of the first block that begins so. */
    private static List<String> block(List<String> lines, String fence) {
        int start = lines.indexOf(fence) + 1;
        List<String> rest = lines.subList(start, lines.size());
        return rest.subList(0, Math.max(0, rest.indexOf("```")));
    }

    private static List<String> answers(List<String> source) throws Exception {
        Path place = Files.createTempDirectory("readme");
        Path file = place.resolve("Example.java");
        try {
            Files.write(file, source);
            String[] options = {"-Xlint:all", "-Werror", "-cp", System.getProperty("java.class.path"), "-d", place.toString(),
                file.toString()};
            Check.same("the example compiles", ToolProvider.getSystemJavaCompiler().run(null, null, null, options), 0);
            return printedBy(place.toUri().toURL());
        } finally {
            delete(place);
        }
    }

    private static List<String> printedBy(URL place) throws Exception {
        PrintStream before = System.out;
        ByteArrayOutputStream printed = new ByteArrayOutputStream();
        try (URLClassLoader loader = new URLClassLoader(new URL[] {place})) {
            System.setOut(new PrintStream(printed, true, StandardCharsets.UTF_8));
            loader.loadClass("Example").getMethod("main", String[].class).invoke(null, (Object) new String[0]);
        } finally {
            System.setOut(before);
        }
        return printed.toString(StandardCharsets.UTF_8).lines().toList();
    }

    private static void delete(Path place) throws IOException {
        try (var files = Files.list(place)) {
            for (Path file : files.toList()) {
                Files.delete(file);
            }
        }
        Files.delete(place);
    }
}
