import java.io.ByteArrayOutputStream;
import java.io.IOException;
import java.io.PrintStream;
import java.lang.reflect.Method;
import java.net.URL;
import java.net.URLClassLoader;
import java.nio.charset.StandardCharsets;
import java.nio.file.Files;
import java.nio.file.Path;
import javax.tools.ToolProvider;

/** The example of README.md compiles and prints what README.md says. */
public final class ReadmeTest {
    private ReadmeTest() {
    }

    public static void main(String[] args) throws IOException, ReflectiveOperationException {
        String readme = Files.readString(Path.of("README.md"));
        Path directory = Files.createTempDirectory("readme");
        Path source = directory.resolve("Example.java");
        Files.writeString(source, blockOf(readme, "java"));
        int failed = ToolProvider.getSystemJavaCompiler().run(null, null, null, "-Xlint:all", "-d",
                directory.toString(), "-cp", System.getProperty("java.class.path"),
                source.toString());
        Due.is("compiling the example", failed, 0);
        if (failed == 0) {
            Due.is("the example", printedFrom(directory), blockOf(readme, "text"));
        }
        for (Method call : CaptionAlbum.class.getMethods()) {
            if (call.getDeclaringClass() == CaptionAlbum.class) {
                boolean told = readme.contains("`" + call.getName() + "`");
                Due.is(call.getName() + " stands in README.md", told, true);
            }
        }
        Files.deleteIfExists(directory.resolve("Example.class"));
        Files.delete(source);
        Files.delete(directory);
        Due.end("ReadmeTest");
    }

    private static String blockOf(String readme, String kind) {
        String begin = "```" + kind + "\n";
        int start = readme.indexOf(begin) + begin.length();
        return readme.substring(start, readme.indexOf("```", start));
    }

    private static String printedFrom(Path directory)
            throws IOException, ReflectiveOperationException {
        PrintStream screen = System.out;
        ByteArrayOutputStream printed = new ByteArrayOutputStream();
        URL[] classes = {directory.toUri().toURL()};
        try (URLClassLoader loader = new URLClassLoader(classes);
                PrintStream caught = new PrintStream(printed, true, StandardCharsets.UTF_8)) {
            System.setOut(caught);
            loader.loadClass("Example").getMethod("main", String[].class)
                    .invoke(null, (Object) new String[0]);
        } finally {
            System.setOut(screen);
        }
        return printed.toString(StandardCharsets.UTF_8).replace("\r", "");
    }
}
