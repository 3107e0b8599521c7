import java.io.IOException;
import java.nio.file.Path;

/** Every sentence of the document by a test of its own; and none of its sentences without one. */
public final class EdgesTest {
    public static void main(String[] args) throws IOException {
        Path root = Path.of(System.getProperty("project", "."));
        Document document = new Document(root.resolve("../shared/DOC.md"));
        Edges e = new Edges(document);
        ValleyEdges.look(e);
        RidgeEdges.look(e);
        StandEdges.look(e);
        TextEdges.look(e);
        int unquoted = document.wrong();
        System.out.println(e.looked() + " sentences, " + e.broken() + " broken, " + unquoted + " quotes wrong or missing");
        if (e.broken() + unquoted != 0 || e.looked() == 0) {
            System.exit(1);
        }
    }
}
