/** For each sentence of the document the test that is its own. */
public final class EdgesTest {
    public static void main(String[] args) {
        TextEdges.all();
        NightEdges.all();
        ActEdges.all();
        RideEdges.all();
        SnowEdges.all();
        PlainEdges.all();
        Edges.end();
    }
}
