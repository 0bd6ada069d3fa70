import java.io.IOException;

/**
 * Each sentence of the document, quoted, and asked for, on both sides of each boundary that it names:
 * the document must have the words, and none of its words may go without a test.
 */
public final class EdgeTest {
    private EdgeTest() {
    }

    public static void main(String[] args) throws IOException, InterruptedException {
        Edges edges = new Edges();
        WholeEdges.ask(edges);
        FaceEdges.ask(edges);
        LineEdges.ask(edges);
        TrainEdges.ask(edges);
        TickEdges.ask(edges);
        StopEdges.ask(edges);
        RecordEdges.ask(edges);
        edges.end();
    }
}
