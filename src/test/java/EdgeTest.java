import java.io.IOException;

/**
 * Each sentence of the document that names a case at a boundary, quoted, and asked for on both sides of it:
 * the document must have the words, and none of its sentences may go without a test.
 */
public final class EdgeTest {
    private EdgeTest() {
    }

    public static void main(String[] args) throws IOException {
        Edges edges = new Edges();
        LineEdges.ask(edges);
        TrainEdges.ask(edges);
        TickEdges.ask(edges);
        StopEdges.ask(edges);
        RecordEdges.ask(edges);
        edges.end();
    }
}
