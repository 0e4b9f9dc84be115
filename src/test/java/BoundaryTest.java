/** Each sentence of the document by its words, with the boundary cases that it names. */
public final class BoundaryTest {
    public static void main(String[] args) {
        Document.open();
        TextBounds.run();
        NetBounds.run();
        PartBounds.run();
        ActBounds.run();
        Document.close();
        Checks.end();
    }
}
