/** Each sentence of the promises and of "Terms", boundary cases above all, by the promise that it belongs to. */
public final class BoundariesTest {
    private BoundariesTest() { }

    public static void main(String[] args) {
        Watch.over("boundaries");
        BoundariesOfNet.all();
        BoundariesOfTrees.all();
        BoundariesOfHand.all();
        BoundariesOfWalls.all();
        BoundariesOfHost.all();
        BoundariesOfTerms.all();
        if (Sentences.wrongAtEnd() != 0) System.exit(1);
    }
}
