/**
 * The document's boundary sentences: at least one run of calls for each, on the edge, beside it and past it. Each names
 * its promise and its sentence; a sentence that tells of an edge and that no run holds makes this fail, too.
 */
public final class EdgesTest {
    public static void main(String[] args) throws Exception {
        Edges edges = new Edges();
        FeetEdges.hold(edges);
        TextEdges.hold(edges);
        FindingEdges.hold(edges);
        TownEdges.hold(edges);
        BoxesEdges.hold(edges);
        HostEdges.hold(edges);
        edges.end();
    }
}
