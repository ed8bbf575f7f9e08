import java.io.IOException;

/** Each sentence of the document that names a boundary case, with a test of its own. */
public final class EdgeTest {
    private EdgeTest() { }

    public static void main(String[] args) throws IOException {
        Edges edges = new Edges();
        new FortEdges(edges).run();
        new LawEdges(edges).run();
        new SleepEdges(edges).run();
        new ActEdges(edges).run();
        new AskEdges(edges).run();
        new YearEdges(edges).run();
        new CallEdges(edges).run();
        edges.finish();
    }
}
