import java.io.IOException;
import java.nio.file.Path;

/** Every sentence of the document, with what is just inside of its edges and what is just outside. */
public final class EdgesTest {
    public static void main(String[] args) throws IOException {
        Check check = new Check("EdgesTest");
        Edges edges = new Edges(check);
        EdgesOfTerms.all(edges);
        EdgesOfSquares.all(edges);
        EdgesOfMondays.all(edges);
        EdgesOfRows.all(edges);
        EdgesOfWeeks.all(edges);
        EdgesOfErrands.all(edges);
        EdgesOfShops.all(edges);
        EdgesOfImages.all(edges);
        edges.end(Path.of("../shared/DOC.md"));
        check.end();
    }
}
