/**
 * Boundary cases, sentence by sentence: too small, too large, empty, full, refused, and in which
 * order. It fails, too, if a clause of the document is named by no test.
 */
public final class EdgesTest extends Edges {
    public static void main(String[] args) {
        EdgesOfTerms.run();
        EdgesOfLetters.run();
        EdgesOfText.run();
        EdgesOfSlots.run();
        EdgesOfCrates.run();
        end();
    }
}
