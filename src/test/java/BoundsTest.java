/** Every sentence of the document that names a boundary case, with a test of its own. */
public final class BoundsTest {
    public static void main(String[] args) throws Exception {
        Checks checks = new Checks();
        Sentences sentences = new Sentences(checks);
        new TextBounds(sentences).all();
        new RecordBounds(sentences).all();
        new ActBounds(sentences).all();
        new LookBounds(sentences).all();
        new RingBounds(sentences).all();
        sentences.lookForUntested();
        checks.finish();
    }
}
