import java.io.ByteArrayOutputStream;
import java.io.IOException;
import java.io.PrintStream;
import java.lang.reflect.Method;
import java.net.URL;
import java.net.URLClassLoader;
import java.nio.file.Files;
import java.nio.file.Path;
import java.util.List;
import java.util.spi.ToolProvider;
import java.util.stream.Stream;

/** README.md: its example does what it says, and it names every call, every class and every test. */
public final class ReadmeTest {
    private static final Due TEST = new Due("ReadmeTest");
    private static final Path BUILD = Path.of("build/readme");

    public static void main(String[] args) throws IOException, ReflectiveOperationException {
        String readme = Files.readString(Path.of("README.md"));
        example(fenced(readme, "java"), fenced(readme, "text"));
        names(readme);
        TEST.end();
    }

    /** The first block of code of a kind; empty without one. */
    private static String fenced(String readme, String kind) {
        String opening = "```" + kind + "\n";
        int begin = readme.indexOf(opening);
        int end = readme.indexOf("```\n", begin + opening.length());
        return begin < 0 || end < 0 ? "" : readme.substring(begin + opening.length(), end);
    }

    private static void example(String code, String prints) throws IOException, ReflectiveOperationException {
        TEST.about("the example");
        Files.createDirectories(BUILD);
        Path file = BUILD.resolve("Example.java");
        Files.writeString(file, code);
        int failed = ToolProvider.findFirst("javac").orElseThrow().run(System.out, System.out,
                "-proc:none", "-d", BUILD.toString(), "src/main/java/RdsDesk.java", file.toString());
        TEST.due("javac", failed, 0);
        if (failed == 0) {
            String printed = printed();
            TEST.due("it has something to print", printed.isBlank(), false);
            TEST.due("it prints " + printed, printed.equals(prints), true);
        }
    }

    private static String printed() throws IOException, ReflectiveOperationException {
        PrintStream before = System.out;
        ByteArrayOutputStream caught = new ByteArrayOutputStream();
        URL[] places = {BUILD.toUri().toURL()};
        try (URLClassLoader loader = new URLClassLoader(places, ClassLoader.getPlatformClassLoader())) {
            Method main = loader.loadClass("Example").getMethod("main", String[].class);
            System.setOut(new PrintStream(caught, true));
            main.invoke(null, (Object) new String[0]);
        } finally {
            System.setOut(before);
        }
        return caught.toString().replace(System.lineSeparator(), "\n");
    }

    private static void names(String readme) throws IOException {
        TEST.about("what it names");
        for (Method method : RdsDesk.class.getMethods()) {
            if (method.getDeclaringClass() == RdsDesk.class) {
                TEST.due(method.getName(), readme.contains("`" + method.getName() + "("), true);
            }
        }
        for (Class<?> type : RdsDesk.class.getDeclaredClasses()) {
            TEST.due(type.getSimpleName(), readme.contains("`" + type.getSimpleName() + "`"), true);
        }
        try (Stream<Path> listed = Files.list(Path.of("src/test/java"))) {
            List<String> files = listed.map(file -> file.getFileName().toString()).sorted().toList();
            for (String file : files) {
                String name = file.replace(".java", "");
                TEST.due(name, readme.contains("`" + name + "`"), true);
            }
        }
    }
}
