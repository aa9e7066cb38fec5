/** A test of its own for each sentence of the document: at its bounds, beyond them, and what stays as it was. */
public final class BoundsTest {
    public static void main(String[] args) {
        TextBounds.all();
        GameBounds.all();
        NotedBounds.all();
        PlanBounds.all();
        StateBounds.all();
        Bounds.DUE.is("promises of the document", Bounds.DOCUMENT.promises(), 47);
        for (String sentence : Bounds.DOCUMENT.withoutTest()) {
            Bounds.DUE.is("there is a test of its own of " + sentence, false, true);
        }
        Bounds.DUE.end();
    }
}
