/** The document, sentence by sentence: the last value that is allowed, the first that is not, what a refusal leaves. */
public final class DocumentTest {
    private DocumentTest() { }

    public static void main(String[] args) throws Exception {
        Doc.read();
        TownTerms.check();
        SayingTerms.check();
        AheadTerms.check();
        PromiseBounds.check();
        ActBounds.check();
        Doc.allIsNamed();
        Check.end();
    }
}
