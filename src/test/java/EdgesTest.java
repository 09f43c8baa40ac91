import java.io.IOException;
import java.nio.file.Path;
import java.util.List;
import java.util.Set;

/**
 * Every boundary case that the document names, sentence by sentence; and that no word of its Terms
 * and its promises is left without a test that quotes it.
 */
public final class EdgesTest {
    static final int SECTIONS = 7;

    private static final Path DOCUMENT = Path.of("../shared/DOC.md");
    /** All that is left of the document: headings. */
    private static final List<String> HEADINGS = List.of("BLOCKS.", "==== 2. GROUPS.", "==== 3. WHAT IS PUT TOGETHER.");

    public static void main(String[] args) throws IOException {
        Edges edges = new Edges(false);
        for (int section = 0; section < SECTIONS; section++) {
            run(edges, section);
        }
        quotes(edges, new Sentences(DOCUMENT));
        edges.end();
    }

    static void run(Edges edges, int section) {
        switch (section) {
            case 0: BlockEdges.run(edges); break;
            case 1: SyncEdges.run(edges); break;
            case 2: GroupEdges.run(edges); break;
            case 3: DraftEdges.run(edges); break;
            case 4: ListEdges.run(edges); break;
            case 5: TimeEdges.run(edges); break;
            default: TagEdges.run(edges); break;
        }
    }

    /** By which sentences of some sections this desk fails; an exception counts for the sentence that it came with. */
    static Set<String> broken(Set<Integer> sections) {
        Edges edges = new Edges(true);
        for (int section : sections) {
            try {
                run(edges, section);
            } catch (RuntimeException thrown) {
                edges.due(thrown.toString(), 1, 0);
            }
        }
        return edges.broken();
    }

    private static void quotes(Edges edges, Sentences document) {
        edges.about("the quotes");
        for (String sentence : edges.sentences()) {
            int space = sentence.indexOf(' ');
            int promise = Integer.parseInt(sentence.substring(0, space));
            boolean isThere = document.quote(promise, sentence.substring(space + 1));
            edges.due("the document has '" + sentence.substring(space + 1) + "'", isThere, true);
        }
        for (String left : document.left()) {
            edges.due("no test quotes '" + left + "'", HEADINGS.contains(left), true);
        }
        System.out.println(edges.sentences().size() + " sentences");
    }
}
