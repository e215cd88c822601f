import java.io.IOException;
import java.nio.file.Files;
import java.nio.file.Path;
import java.util.Set;
import java.util.TreeSet;

/** The edges of some promises; each is begun with a sentence of the document that names it. */
final class Edges {
    private final Due due = new Due();
    private final Set<Integer> touched = new TreeSet<>();
    private final int first;
    private final int last;
    private final String doc;

    Edges(int first, int last) throws IOException {
        this.first = first;
        this.last = last;
        doc = Files.readString(Path.of("../shared/DOC.md"));
    }

    /** An edge, where a new object stands behind the calls told; what the document's sentence is must stand there. */
    Edge at(int promise, String sentence, String... before) {
        touched.add(promise);
        due.isTrue("promise " + promise + " is one of these", promise >= first && promise <= last);
        due.isTrue("the document says under promise " + promise + " or under its terms: " + sentence, says(promise, sentence));
        return new Edge(due, "promise " + promise + ", \"" + sentence + "\"", before);
    }

    private boolean says(int promise, String sentence) {
        return part("## Terms").contains(sentence) || part("## Promise " + promise + ":").contains(sentence);
    }

    private String part(String heading) {
        int from = doc.indexOf("\n" + heading);
        int to = from < 0 ? from : doc.indexOf("\n## ", from + 1);
        return from < 0 ? "" : doc.substring(from, to < 0 ? doc.length() : to);
    }

    void close() {
        for (int promise = first; promise <= last; promise++) {
            due.isTrue("promise " + promise + " has an edge", touched.contains(promise));
        }
        due.close();
    }
}
