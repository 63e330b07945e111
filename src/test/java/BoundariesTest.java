/**
 * A test of its own for each sentence of DOC.md that names a boundary: just inside a limit and just outside it, the
 * empty and the full, and each refused call. The tests stand in src/test/boundaries; here it is also looked at that each
 * of their sentences stands in the document, and that no sentence of the document is without a test.
 */
public final class BoundariesTest {
    private BoundariesTest() {
    }

    public static void main(String[] args) {
        TermsSentences.all();
        MarksSentences.all();
        ChangesSentences.all();
        QuestionsSentences.all();
        PadSentences.all();
        Refusals.all();
        if (!Sentences.report()) {
            System.exit(1);
        }
    }
}
