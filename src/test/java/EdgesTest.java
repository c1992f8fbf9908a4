/** Runs the tests of single sentences of the document, and looks for a sentence without a test. */
public final class EdgesTest {
    public static void main(String[] args) {
        EdgesOfTemplates.all();
        EdgesOfValues.all();
        EdgesOfRendering.all();
        EdgesOfOutcomes.all();
        EdgesOfStates.all();
        Edges.eachSentenceIsQuoted();
        Check.end("EdgesTest");
    }
}
