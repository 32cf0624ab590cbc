import java.io.ByteArrayOutputStream;
import java.io.IOException;
import java.io.PrintStream;
import java.lang.reflect.InvocationTargetException;
import java.net.URL;
import java.net.URLClassLoader;
import java.nio.file.Files;
import java.nio.file.Path;
import java.util.Comparator;
import java.util.List;
import java.util.stream.Collectors;
import java.util.stream.Stream;
import javax.tools.ToolProvider;

/** The program in README.md compiles with the class, and prints what README.md says. */
public final class ReadmeTest {
    private ReadmeTest() {
    }

    public static void main(String[] args) throws IOException, ReflectiveOperationException {
        Texts.about("README.md");
        String readme = Files.readString(Path.of("README.md"));
        String printed = run(block(readme, "```java\n"));
        if (!printed.equals(block(readme, "```text\n"))) {
            Texts.complain("the program prints:\n" + printed);
        }
        namesAllTests(readme);
        Texts.end();
        System.out.println("README.md says what is so");
    }

    private static String block(String readme, String begin) {
        int from = readme.indexOf(begin);
        int to = readme.indexOf("```\n", from + begin.length());
        if (from < 0 || to < 0) {
            Texts.complain("no block of " + begin);
            return "";
        }
        return readme.substring(from + begin.length(), to);
    }

    private static String run(String program) throws IOException, ReflectiveOperationException {
        Path place = Files.createTempDirectory("readme");
        try {
            Path source = Files.writeString(place.resolve("Example.java"), program);
            int broken = ToolProvider.getSystemJavaCompiler().run(null, null, null, "-cp",
                    System.getProperty("java.class.path"), "-d", place.toString(), source.toString());
            return broken != 0 ? "it does not compile" : printed(place);
        } finally {
            remove(place);
        }
    }

    private static String printed(Path place) throws IOException, ReflectiveOperationException {
        ByteArrayOutputStream bytes = new ByteArrayOutputStream();
        PrintStream before = System.out;
        System.setOut(new PrintStream(bytes, true));
        try (URLClassLoader loader = new URLClassLoader(new URL[] {place.toUri().toURL()})) {
            loader.loadClass("Example").getMethod("main", String[].class).invoke(null, (Object) new String[0]);
        } catch (InvocationTargetException e) {
            return "it throws " + e.getCause();
        } finally {
            System.setOut(before);
        }
        return bytes.toString().replace("\r\n", "\n");
    }

    private static void remove(Path place) throws IOException {
        try (Stream<Path> all = Files.walk(place)) {
            for (Path path : all.sorted(Comparator.reverseOrder()).collect(Collectors.toList())) {
                Files.delete(path);
            }
        }
    }

    private static void namesAllTests(String readme) throws IOException {
        try (Stream<Path> all = Files.list(Path.of("src", "test", "java"))) {
            List<String> names = all.map(path -> path.getFileName().toString()).sorted().collect(Collectors.toList());
            for (String name : names) {
                String bare = name.replace(".java", "");
                if (bare.endsWith("Test") && !readme.contains("`" + bare + "`")) {
                    Texts.complain("a test that it does not name: " + bare);
                }
            }
        }
    }
}
