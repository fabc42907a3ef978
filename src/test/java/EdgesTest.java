/** The document again, sentence by sentence: each that names a boundary has a test of its own. */
public final class EdgesTest {
    public static void main(String[] args) {
        TermsEdges.run();
        BodiesEdges.run();
        ActsEdges.run();
        TablesEdges.run();
        BidsEdges.run();
        EndsEdges.run();
        MoneyEdges.run();
        QuestionsEdges.run();
        RefusalEdges.run();
        Check.everyPromiseWasNamed();
        Check.end();
    }
}
