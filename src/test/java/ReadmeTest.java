import java.io.ByteArrayOutputStream;
import java.io.IOException;
import java.io.PrintStream;
import java.lang.reflect.Field;
import java.lang.reflect.Method;
import java.lang.reflect.Modifier;
import java.net.URL;
import java.net.URLClassLoader;
import java.nio.charset.StandardCharsets;
import java.nio.file.Files;
import java.nio.file.Path;
import java.util.Comparator;
import java.util.List;
import java.util.stream.Collectors;
import java.util.stream.Stream;
import javax.tools.ToolProvider;

/** README.md: its example prints what it says, and its tables name every method and constant. */
public final class ReadmeTest {
    private static final Check CHECK = new Check();

    public static void main(String[] args) throws IOException, ReflectiveOperationException {
        String readme = Files.readString(Path.of("README.md"));
        example(readme);
        methods(readme);
        constants(readme);
        CHECK.end();
    }

    private static void example(String readme) throws IOException, ReflectiveOperationException {
        Path folder = Files.createTempDirectory("readme");
        try {
            Path source = folder.resolve("Hello.java");
            Files.writeString(source, block(readme, "java"));
            int compiled = ToolProvider.getSystemJavaCompiler().run(null, null, null, "-Xlint:all", "-Werror",
                "-cp", System.getProperty("java.class.path"), "-d", folder.toString(), source.toString());
            CHECK.due("javac Hello.java", compiled, 0);
            if (compiled == 0) {
                CHECK.due("java Hello", printed(folder), block(readme, "text"));
            }
        } finally {
            delete(folder);
        }
    }

    /** The lines between the first ```language and the next ```. */
    private static String block(String readme, String language) {
        String start = "\n```" + language + "\n";
        int from = readme.indexOf(start);
        int to = readme.indexOf("\n```\n", from + 1);
        if (from < 0 || to < 0) {
            throw new IllegalStateException("README.md has no block of " + language);
        }
        return readme.substring(from + start.length(), to + 1);
    }

    private static String printed(Path folder) throws IOException, ReflectiveOperationException {
        PrintStream console = System.out;
        ByteArrayOutputStream taken = new ByteArrayOutputStream();
        URL[] places = {folder.toUri().toURL()};
        try (URLClassLoader loader = new URLClassLoader(places)) {
            Method main = loader.loadClass("Hello").getMethod("main", String[].class);
            System.setOut(new PrintStream(taken, true, StandardCharsets.UTF_8));
            main.invoke(null, (Object) new String[0]);
        } finally {
            System.setOut(console);
        }
        return taken.toString(StandardCharsets.UTF_8).replace(System.lineSeparator(), "\n");
    }

    private static void delete(Path folder) throws IOException {
        List<Path> all;
        try (Stream<Path> walk = Files.walk(folder)) {
            all = walk.sorted(Comparator.reverseOrder()).collect(Collectors.toList());
        }
        for (Path path : all) {
            Files.delete(path);
        }
    }

    private static void methods(String readme) {
        for (Method method : LogicLessTemplate.class.getDeclaredMethods()) {
            if (Modifier.isPublic(method.getModifiers())) {
                boolean told = readme.contains("\n| `" + method.getName() + "(");
                CHECK.due("README.md tells " + method.getName(), told ? 1 : 0, 1);
            }
        }
    }

    private static void constants(String readme) throws IllegalAccessException {
        for (Field field : LogicLessTemplate.class.getDeclaredFields()) {
            if (Modifier.isPublic(field.getModifiers())) {
                String row = "\n| `" + field.getName() + "` | " + field.getInt(null) + " | ";
                CHECK.due("README.md tells " + field.getName(), readme.contains(row) ? 1 : 0, 1);
            }
        }
    }
}
