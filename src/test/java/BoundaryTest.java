/**
 * Each sentence of the document that names a boundary case, with a test of its own that says which one it is.
 * At the end it is seen that no words of the terms and of the promises are left without one.
 */
public final class BoundaryTest {
    public static void main(String[] args) {
        TextBoundaries.all();
        LookBoundaries.all();
        ChangeBoundaries.all();
        DualBoundaries.all();
        NumberBoundaries.all();
        Sentence.end();
    }
}
