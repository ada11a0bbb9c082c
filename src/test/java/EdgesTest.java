/** The sentences of the document that name an edge, each with its own checks, promise by promise. */
public final class EdgesTest {
    public static void main(String[] args) {
        Checks checks = new Checks("EdgesTest");
        Edges[] all = {new PointEdges(checks), new HistoryEdges(checks), new BlockEdges(checks),
            new HullEdges(checks), new LevelEdges(checks), new TextEdges(checks),
            new ChangeEdges(checks)};
        for (Edges edges : all) {
            edges.check();
        }
        checks.dueAllPromises();
        checks.finish();
    }
}
