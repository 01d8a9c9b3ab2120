import java.io.ByteArrayOutputStream;
import java.io.IOException;
import java.io.PrintStream;
import java.lang.reflect.Method;
import java.lang.reflect.Modifier;
import java.net.URL;
import java.net.URLClassLoader;
import java.nio.charset.StandardCharsets;
import java.nio.file.Files;
import java.nio.file.Path;
import java.util.stream.Stream;
import javax.tools.ToolProvider;

/** README.md: its example compiles and prints what stands there, and it names every call and every test. */
public final class ReadmeTest {
    private ReadmeTest() {
    }

    /** Arguments: the document, the program's file and README.md. */
    public static void main(String[] args) throws Exception {
        Path readme = Path.of(args[2]).toAbsolutePath();
        String text = Files.readString(readme, StandardCharsets.UTF_8);
        namesEveryCall(text);
        namesEveryTest(text, readme.resolveSibling("src/test/java"));
        String printed = run(block(text, "java"));
        Due.is("README's example prints", block(text, "text"), () -> printed);
        Due.end("ReadmeTest");
    }

    private static void namesEveryCall(String text) {
        for (Method method : ParityGame.class.getDeclaredMethods()) {
            if (Modifier.isPublic(method.getModifiers())) {
                String name = "`" + method.getName() + "`";
                Due.is("README names " + name, true, () -> text.contains(name));
            }
        }
    }

    private static void namesEveryTest(String text, Path directory) throws IOException {
        try (Stream<Path> files = Files.list(directory)) {
            for (Path file : (Iterable<Path>) files.sorted()::iterator) {
                String name = file.getFileName().toString().replace(".java", "");
                if (name.endsWith("Test") || name.endsWith("Edges")) {
                    Due.is("README names " + name, true, () -> text.contains("`" + name + "`"));
                }
            }
        }
    }

    /** What stands in the first block of this kind; nothing if there is none. */
    private static String block(String text, String kind) {
        String opening = "\n```" + kind + "\n";
        int start = text.indexOf(opening);
        int end = text.indexOf("\n```\n", start + opening.length() - 1);
        return start < 0 || end < 0 ? "" : text.substring(start + opening.length(), end + 1);
    }

    private static String run(String program) throws Exception {
        Path directory = Files.createTempDirectory("readme");
        Path file = directory.resolve("Example.java");
        Path compiled = directory.resolve("Example.class");
        try {
            Files.writeString(file, program);
            String classes = System.getProperty("java.class.path");
            int code = ToolProvider.getSystemJavaCompiler().run(null, null, null, "-Xlint:all", "-Werror",
                    "-cp", classes, "-d", directory.toString(), file.toString());
            Due.is("README's example compiles", 0, () -> code);
            return code == 0 ? printed(directory) : "";
        } finally {
            Files.deleteIfExists(file);
            Files.deleteIfExists(compiled);
            Files.delete(directory);
        }
    }

    private static String printed(Path directory) throws Exception {
        ByteArrayOutputStream bytes = new ByteArrayOutputStream();
        PrintStream usual = System.out;
        try (URLClassLoader loader = new URLClassLoader(new URL[] {directory.toUri().toURL()})) {
            Method main = loader.loadClass("Example").getMethod("main", String[].class);
            System.setOut(new PrintStream(bytes, true, StandardCharsets.UTF_8));
            main.invoke(null, (Object) new String[0]);
        } finally {
            System.setOut(usual);
        }
        return bytes.toString(StandardCharsets.UTF_8).replace(System.lineSeparator(), "\n");
    }
}
