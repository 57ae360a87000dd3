import java.io.IOException;

/** Each sentence of the document that names an edge, by promises. */
public final class EdgesTest {
    public static void main(String[] args) throws IOException {
        Edges edges = new Edges();
        new LibraryEdges(edges).run();
        new DraftEdges(edges).run();
        new DutyEdges(edges).run();
        new RefusalEdges(edges).run();
        edges.compareWithDocument();
        edges.finish();
    }
}
