import java.io.ByteArrayOutputStream;
import java.io.IOException;
import java.io.PrintStream;
import java.lang.reflect.Method;
import java.net.URL;
import java.net.URLClassLoader;
import java.nio.charset.StandardCharsets;
import java.nio.file.Files;
import java.nio.file.Path;
import javax.tools.ToolProvider;

/** The program in README.md compiles and prints what README.md shows. */
public final class ReadmeTest {
    public static void main(String[] args) throws Exception {
        String readme = Files.readString(Path.of("README.md"));
        Path dir = Files.createTempDirectory("readme");
        Path source = dir.resolve("Demo.java");
        Files.writeString(source, block(readme, "java"));
        int failed = ToolProvider.getSystemJavaCompiler().run(null, null, null, "-d", dir.toString(),
            "src/main/java/PaneMultiplexer.java", source.toString());
        Expect.same("javac of the program in README.md", failed, 0);
        if (failed == 0) {
            // README.md shows no blanks at the end of a line.
            String shown = printed(dir).replaceAll(" +\n", "\n");
            Expect.same("the program in README.md", shown, block(readme, "text"));
        }
        delete(dir);
        Expect.finish();
    }

    private static String block(String readme, String kind) {
        String open = "```" + kind + "\n";
        int from = readme.indexOf(open) + open.length();
        return readme.substring(from, readme.indexOf("```", from));
    }

    private static String printed(Path dir) throws Exception {
        PrintStream console = System.out;
        ByteArrayOutputStream bytes = new ByteArrayOutputStream();
        try (URLClassLoader loader = new URLClassLoader(new URL[] {dir.toUri().toURL()}, null)) {
            Method main = loader.loadClass("Demo").getMethod("main", String[].class);
            System.setOut(new PrintStream(bytes, true, StandardCharsets.UTF_8));
            main.invoke(null, (Object) new String[0]);
        } finally {
            System.setOut(console);
        }
        return bytes.toString(StandardCharsets.UTF_8).replace(System.lineSeparator(), "\n");
    }

    private static void delete(Path dir) throws IOException {
        try (var files = Files.list(dir)) {
            for (Path file : files.toList()) {
                Files.delete(file);
            }
        }
        Files.delete(dir);
    }
}
