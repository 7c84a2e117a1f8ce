/**
 * Tests for each sentence of the document, each of which names its promise and the words that it holds: the `*Bounds`
 * for those that name a boundary case, the `*Sentences` for the others. Words that no test names make it fail.
 */
public final class DocumentTest {
    private static final int PROMISES = 23;

    public static void main(String[] args) throws Exception {
        Check.readDocument(args);
        ObjectBounds.check();
        FewestBounds.check();
        GoalBounds.check();
        RoadBounds.check();
        PriceBounds.check();
        TextBounds.check();
        ChainBounds.check();
        RefusalBounds.check();
        FaceSentences.check(args.length > 0 ? args[0] : ".");
        RowSentences.check();
        RoadSentences.check();
        ChainSentences.check();
        leaveFree();
        Check.endSentences(PROMISES);
        Check.end();
    }

    private static void leaveFree() {
        Check.leftFree("How the state is held inside the object is free, as are the speed of each call, the text of "
            + "toString and the behaviour of equals and hashCode. Use of one object from several threads at once is "
            + "not promised to be safe. Nothing is promised beyond the answers and state changes described above, and "
            + "nothing about an object after its 512th call.");
    }
}
