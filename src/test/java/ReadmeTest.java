import java.io.ByteArrayOutputStream;
import java.io.IOException;
import java.io.PrintStream;
import java.lang.reflect.Method;
import java.lang.reflect.Modifier;
import java.net.URL;
import java.net.URLClassLoader;
import java.nio.file.Files;
import java.nio.file.Path;
import java.util.Comparator;
import java.util.List;
import java.util.stream.Collectors;
import java.util.stream.Stream;
import javax.tools.ToolProvider;

/** README.md says how to use the class: its example works, and it tells every call. */
public final class ReadmeTest {
    private static final String NAME = "Example";

    public static void main(String[] args) throws Exception {
        Checks checks = new Checks();
        String readme = Files.readString(Path.of("README.md"));
        checks.sentence("README.md tells every call");
        calls(checks, readme);
        checks.sentence("README.md's example prints what stands behind it");
        checks.due("the example", output(block(readme, "java")), block(readme, "text"));
        checks.end();
    }

    private static void calls(Checks checks, String readme) {
        for (Method method : ExactNumbers.class.getDeclaredMethods()) {
            if (Modifier.isPublic(method.getModifiers())) {
                checks.due("rows of README.md for " + method.getName(), rows(readme, method), 1);
            }
        }
    }

    private static long rows(String readme, Method method) {
        String start = "| `" + method.getName() + "(";
        int count = method.getParameterCount();
        return readme.lines().filter(line -> line.startsWith(start))
                .map(line -> line.substring(start.length(), line.indexOf(')')))
                .filter(names -> names.split(", ").length == count).count();
    }

    /** What stands in the first block of README.md that is marked so. */
    private static String block(String readme, String mark) {
        List<String> lines = readme.lines().collect(Collectors.toList());
        int from = lines.indexOf("```" + mark) + 1;
        int length = lines.subList(from, lines.size()).indexOf("```");
        return from == 0 || length < 0 ? "no block marked " + mark
                : String.join("\n", lines.subList(from, from + length));
    }

    private static String output(String code) throws Exception {
        Path directory = Files.createTempDirectory("readme");
        try {
            return compiles(directory, code) ? printed(directory) : "the example does not compile";
        } finally {
            delete(directory);
        }
    }

    private static boolean compiles(Path directory, String code) throws IOException {
        Path file = directory.resolve(NAME + ".java");
        Files.writeString(file, "public final class " + NAME
                + " { public static void main(String[] args) {\n" + code + "\n} }\n");
        return ToolProvider.getSystemJavaCompiler().run(null, null, null, "-d", directory.toString(),
                "-cp", System.getProperty("java.class.path"), file.toString()) == 0;
    }

    private static String printed(Path directory) throws Exception {
        PrintStream before = System.out;
        ByteArrayOutputStream bytes = new ByteArrayOutputStream();
        try (URLClassLoader loader = new URLClassLoader(new URL[] {directory.toUri().toURL()})) {
            System.setOut(new PrintStream(bytes, true));
            loader.loadClass(NAME).getMethod("main", String[].class).invoke(null, (Object) new String[0]);
        } finally {
            System.setOut(before);
        }
        return bytes.toString().lines().collect(Collectors.joining("\n"));
    }

    private static void delete(Path directory) throws IOException {
        try (Stream<Path> paths = Files.walk(directory)) {
            for (Path path : paths.sorted(Comparator.reverseOrder()).collect(Collectors.toList())) {
                Files.delete(path);
            }
        }
    }
}
