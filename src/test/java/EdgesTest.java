import java.io.IOException;

/** For each sentence of the document a test that would fail if it were broken; none may be left out. */
final class EdgesTest {
    public static void main(String[] args) throws IOException {
        Edges edges = new Edges();
        new TermEdges(edges).all();
        new SweepEdges(edges).all();
        new StateEdges(edges).all();
        new RibbonEdges(edges).all();
        new OrderEdges(edges).all();
        new WidthEdges(edges).all();
        new TextEdges(edges).all();
        new SnapshotEdges(edges).all();
        new LookEdges(edges).all();
        new WouldBeEdges(edges).all();
        edges.end();
    }
}
