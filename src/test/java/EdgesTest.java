import java.io.IOException;

/** The boundary cases of promises 1 to 30, a sentence at a time. */
public final class EdgesTest {
    public static void main(String[] args) throws IOException {
        Edges edges = new Edges();
        new LayEdges(edges).all();
        new TextEdges(edges).all();
        new FaultEdges(edges).all();
        new WeekEdges(edges).all();
        new TakeEdges(edges).all();
        new TriedEdges(edges).all();
        new SpanEdges(edges).all();
        new CountEdges(edges).all();
        edges.finish();
    }
}
