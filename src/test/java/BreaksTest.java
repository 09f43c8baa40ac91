import java.io.IOException;
import java.io.PrintWriter;
import java.io.StringWriter;
import java.lang.reflect.Method;
import java.net.URL;
import java.net.URLClassLoader;
import java.nio.file.Files;
import java.nio.file.Path;
import java.util.ArrayList;
import java.util.LinkedHashMap;
import java.util.LinkedHashSet;
import java.util.List;
import java.util.Map;
import java.util.Set;
import java.util.TreeSet;
import java.util.concurrent.ConcurrentHashMap;
import java.util.concurrent.ConcurrentMap;
import java.util.spi.ToolProvider;
import java.util.stream.Stream;

/**
 * That the tests of boundary cases would fail: each sentence that EdgesTest quotes is broken in a
 * copy of the class, at least once, and the test that quotes it must see that.
 */
public final class BreaksTest {
    private static final Due TEST = new Due("BreaksTest");
    private static final Path SOURCE = Path.of("src/main/java/RdsDesk.java");
    private static final Path BREAKS = Path.of("src/test/breaks");
    private static final Path BUILD = Path.of("build/breaks");

    public static void main(String[] args) throws IOException {
        String source = stripped(Files.readString(SOURCE));
        Map<String, Integer> sections = sections();
        Set<String> untried = new LinkedHashSet<>(sections.keySet());
        ConcurrentMap<Break, String> outcomes = new ConcurrentHashMap<>();
        List<Break> breaks = breaks();
        breaks.parallelStream().forEach(broken -> outcomes.put(broken, outcome(broken, source, sections)));
        for (Break broken : breaks) {
            TEST.about(broken.where + " " + broken.sentences);
            TEST.due("'" + outcomes.get(broken) + "'", outcomes.get(broken).isEmpty(), true);
            for (String begin : broken.sentences) {
                untried.removeIf(sentence -> sentence.startsWith(begin));
            }
        }
        TEST.about("sentences without a break");
        for (String sentence : untried) {
            TEST.due("'" + sentence + "'", false, true);
        }
        TEST.end();
    }

    private static String stripped(String source) {
        List<String> lines = new ArrayList<>();
        source.lines().forEach(line -> lines.add(line.strip()));
        return String.join("\n", lines);
    }

    /** Each sentence, and the section of EdgesTest that quotes it. */
    private static Map<String, Integer> sections() {
        Map<String, Integer> sections = new LinkedHashMap<>();
        for (int section = 0; section < EdgesTest.SECTIONS; section++) {
            Edges edges = new Edges(true);
            EdgesTest.run(edges, section);
            TEST.about("the class as it is");
            TEST.due("sentences that it breaks", edges.broken().size(), 0);
            for (String sentence : edges.sentences()) {
                TEST.due("another section quotes '" + sentence + "' too", sections.containsKey(sentence), false);
                sections.put(sentence, section);
            }
        }
        return sections;
    }

    private static List<Break> breaks() throws IOException {
        List<Path> files;
        try (Stream<Path> listed = Files.list(BREAKS)) {
            files = listed.sorted().toList();
        }
        List<Break> all = new ArrayList<>();
        for (Path file : files) {
            all.addAll(Break.read(file));
        }
        return all;
    }

    /** Empty if each of its sentences is seen to be broken. */
    private static String outcome(Break broken, String source, Map<String, Integer> sections) {
        Set<Integer> needed = new TreeSet<>();
        for (String begin : broken.sentences) {
            List<String> fitting = sections.keySet().stream().filter(sentence -> sentence.startsWith(begin)).toList();
            if (fitting.size() != 1) {
                return "not the begin of one sentence: " + begin;
            }
            needed.add(sections.get(fitting.get(0)));
        }
        String changed = broken.applyTo(source);
        if (changed == null) {
            return "the class does not have these lines just once";
        }
        try {
            return unseen(broken, needed, compiled(broken.where.replace(':', '_'), changed));
        } catch (IOException | ReflectiveOperationException | IllegalStateException thrown) {
            return thrown.toString();
        }
    }

    private static Path compiled(String name, String changed) throws IOException {
        Path directory = BUILD.resolve(name);
        Files.createDirectories(directory);
        Path file = directory.resolve("RdsDesk.java");
        Files.writeString(file, changed);
        StringWriter said = new StringWriter();
        PrintWriter out = new PrintWriter(said);
        int code = ToolProvider.findFirst("javac").orElseThrow()
                .run(out, out, "-proc:none", "-nowarn", "-d", directory.toString(), file.toString());
        if (code != 0) {
            throw new IllegalStateException("does not compile: " + said);
        }
        return directory;
    }

    /** The tests are loaded anew with the broken class in the place of the right one. */
    private static String unseen(Break broken, Set<Integer> sections, Path directory)
            throws IOException, ReflectiveOperationException {
        URL[] places = {directory.toUri().toURL(), Path.of(System.getProperty("java.class.path")).toUri().toURL()};
        try (URLClassLoader loader = new URLClassLoader(places, ClassLoader.getPlatformClassLoader())) {
            Method method = loader.loadClass("EdgesTest").getDeclaredMethod("broken", Set.class);
            method.setAccessible(true);
            Set<?> seen = (Set<?>) method.invoke(null, sections);
            for (String begin : broken.sentences) {
                if (seen.stream().noneMatch(sentence -> sentence.toString().startsWith(begin))) {
                    return "no test of this sentence fails: " + begin;
                }
            }
            return "";
        }
    }
}
