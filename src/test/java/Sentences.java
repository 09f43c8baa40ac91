import java.io.IOException;
import java.nio.file.Files;
import java.nio.file.Path;
import java.util.ArrayList;
import java.util.List;
import java.util.TreeMap;

/** The words of the document that bind, and which of them a test has quoted: the Terms, and each promise. */
final class Sentences {
    private static final int TERMS = 0;

    private final TreeMap<Integer, String> parts = new TreeMap<>();
    private final TreeMap<Integer, boolean[]> quoted = new TreeMap<>();

    Sentences(Path document) throws IOException {
        String binding = Files.readString(document);
        binding = binding.substring(binding.indexOf("## Terms"), binding.indexOf("## Not promised"));
        for (String part : binding.split("(?m)^## ")) {
            boolean isPromise = part.startsWith("Promise ");
            int number = isPromise ? Integer.parseInt(part.substring(8, part.indexOf(':'))) : TERMS;
            if (!part.isBlank()) {
                parts.put(number, plain(part));
            }
        }
        for (int number : parts.keySet()) {
            quoted.put(number, new boolean[parts.get(number).length()]);
        }
    }

    /** Without the heading, the fences, and the call that a promise begins with. */
    private static String plain(String part) {
        String text = part.substring(part.indexOf('\n'));
        text = text.replaceAll("```\\w*", " ").replaceFirst("^\\s*`[^`]*`:", " ");
        return text.replaceAll("\\s+", " ");
    }

    /** The promise's own words, or those of the Terms that it stands on; false if neither has them. */
    boolean quote(int promise, String words) {
        return mark(promise, words) || mark(TERMS, words);
    }

    private boolean mark(int number, String words) {
        String text = parts.getOrDefault(number, "");
        int at = text.indexOf(words);
        for (int i = at; at >= 0 && i < at + words.length(); i++) {
            quoted.get(number)[i] = true;
        }
        return at >= 0;
    }

    /** What no test has quoted. */
    List<String> left() {
        List<String> left = new ArrayList<>();
        for (int number : parts.keySet()) {
            StringBuilder run = new StringBuilder();
            for (int i = 0; i <= parts.get(number).length(); i++) {
                boolean goesOn = i < parts.get(number).length() && !quoted.get(number)[i];
                if (goesOn) {
                    run.append(parts.get(number).charAt(i));
                } else if (!run.toString().isBlank()) {
                    left.add(run.toString().trim());
                    run.setLength(0);
                } else {
                    run.setLength(0);
                }
            }
        }
        return left;
    }
}
