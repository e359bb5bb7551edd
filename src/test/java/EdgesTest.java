import java.nio.file.Path;

/** Promises 1 to 42 and the terms: a test of its own for each boundary that the document names. */
public final class EdgesTest {
    public static void main(String[] args) throws Exception {
        Edges edges = new Edges();
        edges.readDocument(Path.of(System.getProperty("document", "../shared/DOC.md")));
        ShedEdges.hold(edges);
        LawEdges.hold(edges);
        PlanEdges.hold(edges);
        VoteEdges.hold(edges);
        KnockEdges.hold(edges);
        DeedEdges.hold(edges);
        ActEdges.hold(edges);
        ShelfEdges.hold(edges);
        if (edges.end() != 0) {
            System.exit(1);
        }
    }
}
