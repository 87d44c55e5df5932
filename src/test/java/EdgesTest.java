/** Each sentence of the document that names an edge has a test of its own here, under its own words. */
public final class EdgesTest {
    public static void main(String[] args) throws Exception {
        Sentences.read(Sentences.document());
        TermsEdges.all();
        RowEdges.all();
        TextEdges.all();
        ActEdges.all();
        ForetoldEdges.all();
        FitEdges.all();
        KeptEdges.all();
        Sentences.allRead();
        Check.end();
    }
}
