import java.io.ByteArrayOutputStream;
import java.io.IOException;
import java.io.PrintStream;
import java.lang.reflect.Method;
import java.lang.reflect.Modifier;
import java.net.URL;
import java.net.URLClassLoader;
import java.nio.charset.StandardCharsets;
import java.nio.file.Files;
import java.nio.file.Path;
import java.util.Set;
import java.util.TreeSet;
import java.util.regex.Matcher;
import java.util.regex.Pattern;
import java.util.stream.Stream;
import javax.tools.JavaCompiler;
import javax.tools.ToolProvider;

/** What README.md says is so: its program prints what it says, and it names calls and tests. */
public final class ReadmeTest {
    private static final Path README = Path.of("README.md");
    private static final Path TESTS = Path.of("src/test/java");

    public static void main(String[] args) throws Exception {
        String readme = Files.readString(README);
        Checks.same("what the program prints", block(readme, "text"),
                printed(block(readme, "java")));
        Checks.same("the calls", callsOfTheFace().toString(),
                found("(?m)^\\| `(\\w+)\\(", readme).toString());
        Checks.same("the tests", testsOfTheProject().toString(),
                found("`(\\w+Test)`", readme).toString());
        Checks.end();
    }

    /** The first block of that kind. */
    private static String block(String readme, String kind) {
        Matcher matcher = Pattern.compile("(?s)```" + kind + "\n(.*?)```").matcher(readme);
        return matcher.find() ? matcher.group(1) : "";
    }

    private static Set<String> found(String pattern, String text) {
        Set<String> all = new TreeSet<>();
        Matcher matcher = Pattern.compile(pattern).matcher(text);
        while (matcher.find()) {
            all.add(matcher.group(1));
        }
        return all;
    }

    private static Set<String> callsOfTheFace() {
        Set<String> all = new TreeSet<>();
        for (Method method : WireBench.class.getDeclaredMethods()) {
            if (Modifier.isPublic(method.getModifiers())) {
                all.add(method.getName());
            }
        }
        return all;
    }

    private static Set<String> testsOfTheProject() throws IOException {
        Set<String> all = new TreeSet<>();
        try (Stream<Path> files = Files.list(TESTS)) {
            files.map(file -> file.getFileName().toString())
                    .filter(name -> name.endsWith("Test.java"))
                    .forEach(name -> all.add(name.replace(".java", "")));
        }
        return all;
    }

    private static String printed(String program) throws Exception {
        Path place = Files.createTempDirectory("readme");
        Path source = Files.writeString(place.resolve("Use.java"), program);
        try {
            JavaCompiler compiler = ToolProvider.getSystemJavaCompiler();
            int failed = compiler.run(null, null, null, "--release", "17", "-d", place.toString(),
                    "-cp", System.getProperty("java.class.path"), source.toString());
            return failed != 0 ? "does not compile" : run(place);
        } finally {
            Files.deleteIfExists(source);
            Files.deleteIfExists(place.resolve("Use.class"));
            Files.deleteIfExists(place);
        }
    }

    private static String run(Path place) throws Exception {
        PrintStream before = System.out;
        ByteArrayOutputStream bytes = new ByteArrayOutputStream();
        try (URLClassLoader loader = new URLClassLoader(new URL[] {place.toUri().toURL()})) {
            Method main = loader.loadClass("Use").getMethod("main", String[].class);
            System.setOut(new PrintStream(bytes, true, StandardCharsets.UTF_8));
            main.invoke(null, (Object) new String[0]);
        } finally {
            System.setOut(before);
        }
        return bytes.toString(StandardCharsets.UTF_8).replace(System.lineSeparator(), "\n");
    }
}
