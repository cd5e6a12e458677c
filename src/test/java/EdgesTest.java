/** Every sentence of the document's terms and promises, each with a test of its own that goes to its edges. */
public final class EdgesTest {
    private EdgesTest() {
    }

    public static void main(String[] args) {
        Sentences doc = new Sentences();
        TextEdges.hold(doc);
        ActEdges.hold(doc);
        ReckoningEdges.hold(doc);
        AnswerEdges.hold(doc);
        doc.everyWordWasQuoted();
        Check.end();
    }
}
