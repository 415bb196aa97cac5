/** Each sentence of the document that names a boundary case, with a test of its own. */
public final class BoundsTest {
    private BoundsTest() {
    }

    public static void main(String[] args) {
        BoundsOfTexts.run();
        BoundsOfTerms.run();
        BoundsOfPromises.run();
        Bounds.DOC.end("BoundsTest");
    }
}
