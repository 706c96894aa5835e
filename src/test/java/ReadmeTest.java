import java.io.ByteArrayOutputStream;
import java.io.IOException;
import java.io.PrintStream;
import java.lang.reflect.Method;
import java.lang.reflect.Modifier;
import java.net.URL;
import java.net.URLClassLoader;
import java.nio.file.Files;
import java.nio.file.Path;
import java.util.List;
import java.util.stream.Stream;
import javax.tools.ToolProvider;

/** README.md: its program says what stands there, and it names each test and each call. */
public final class ReadmeTest {
    private static final Path TESTS = Path.of("src/test/java");

    public static void main(String[] args) throws IOException, ReflectiveOperationException {
        String readme = Files.readString(Path.of("README.md"));
        Due.isAlike("the program of README.md", said(block(readme, "java")), block(readme, "text"));
        for (String test : tests()) {
            Due.isTrue("README.md names " + test, readme.contains("`" + test + "`"));
        }
        for (Method m : WoundEggs.class.getDeclaredMethods()) {
            if (Modifier.isPublic(m.getModifiers())) {
                Due.isTrue("README.md names " + m.getName(),
                    readme.contains("`" + m.getName() + "`"));
            }
        }
        Due.isTrue("README.md tells the command that runs all tests",
            readme.contains("```sh\n.ci/run\n```"));
        Due.end();
    }

    /** The lines of the first block of a sort. */
    private static String block(String readme, String sort) {
        String start = "```" + sort + "\n";
        int from = readme.indexOf(start);
        int end = readme.indexOf("```\n", from + start.length());
        return from < 0 || end < 0 ? "" : readme.substring(from + start.length(), end);
    }

    private static List<String> tests() throws IOException {
        try (Stream<Path> files = Files.list(TESTS)) {
            return files.map(file -> file.getFileName().toString())
                .filter(name -> name.endsWith("Test.java"))
                .map(name -> name.substring(0, name.length() - ".java".length())).toList();
        }
    }

    /** What a program named Example says when it is compiled and run. */
    private static String said(String program) throws IOException, ReflectiveOperationException {
        Path folder = Files.createTempDirectory("readme");
        Path source = folder.resolve("Example.java");
        Path compiled = folder.resolve("Example.class");
        PrintStream usual = System.out;
        ByteArrayOutputStream heard = new ByteArrayOutputStream();
        try (URLClassLoader loader = new URLClassLoader(new URL[] {folder.toUri().toURL()})) {
            Files.writeString(source, program);
            int status = ToolProvider.getSystemJavaCompiler().run(null, null, null,
                "-cp", System.getProperty("java.class.path"), "-d", folder.toString(),
                source.toString());
            if (status != 0) {
                return "does not compile";
            }
            System.setOut(new PrintStream(heard, true));
            loader.loadClass("Example").getMethod("main", String[].class)
                .invoke(null, (Object) new String[0]);
        } finally {
            System.setOut(usual);
            Files.deleteIfExists(source);
            Files.deleteIfExists(compiled);
            Files.deleteIfExists(folder);
        }
        return heard.toString().replace(System.lineSeparator(), "\n");
    }
}
