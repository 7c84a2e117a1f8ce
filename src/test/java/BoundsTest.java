/** One test for each sentence of the document that names a boundary case; each names its promise and the sentence. */
public final class BoundsTest {
    private static final int PROMISES = 23;

    public static void main(String[] args) throws Exception {
        Check.readDocument(args);
        ObjectBounds.check();
        FewestBounds.check();
        GoalBounds.check();
        RoadBounds.check();
        PriceBounds.check();
        TextBounds.check();
        ChainBounds.check();
        RefusalBounds.check();
        Check.endSentences(PROMISES);
        Check.end();
    }
}
