import java.io.IOException;
import java.nio.file.Files;
import java.nio.file.Path;
import java.util.ArrayList;
import java.util.List;

/**
 * A change of the class that breaks sentences of the document, read from src/test/breaks: '#' lines
 * begin the sentences, '<' lines are the class's own (each without its indent), '>' lines stand in
 * their place. An empty line ends it.
 */
final class Break {
    final String where;
    final List<String> sentences = new ArrayList<>();
    private final List<List<String>> olds = new ArrayList<>();
    private final List<List<String>> news = new ArrayList<>();

    private Break(String where) {
        this.where = where;
    }

    static List<Break> read(Path file) throws IOException {
        List<Break> all = new ArrayList<>();
        Break open = null;
        int number = 0;
        for (String line : Files.readAllLines(file)) {
            number++;
            if (line.isEmpty()) {
                open = null;
                continue;
            }
            if (open == null) {
                open = new Break(file.getFileName() + ":" + number);
                all.add(open);
            }
            open.add(line.charAt(0), line.substring(1).strip());
        }
        return all;
    }

    private void add(char kind, String words) {
        if (kind == '#') {
            sentences.add(words);
            return;
        }
        boolean beginsAPair = olds.isEmpty() || !news.get(news.size() - 1).isEmpty();
        if (kind == '<' && beginsAPair) {
            olds.add(new ArrayList<>());
            news.add(new ArrayList<>());
        }
        List<List<String>> side = kind == '<' ? olds : news;
        side.get(side.size() - 1).add(words);
    }

    /** The broken source; null if the class no longer has one of the lines just once. */
    String applyTo(String source) {
        String text = source;
        for (int i = 0; i < olds.size(); i++) {
            String old = "\n" + String.join("\n", olds.get(i));
            int at = text.indexOf(old);
            if (at < 0 || text.indexOf(old, at + 1) >= 0) {
                return null;
            }
            text = text.substring(0, at) + "\n" + String.join("\n", news.get(i)) + text.substring(at + old.length());
        }
        return text;
    }
}
