/** A test for each sentence of the document that names a boundary, with the sentence beside it. */
public final class BoundaryTest {
    public static void main(String[] args) {
        BoundariesOfWords.run();
        BoundariesOfMicroSteps.run();
        BoundariesOfInstructions.run();
        BoundariesOfDefinitions.run();
        BoundariesOfStore.run();
        BoundariesFromOutside.run();
        BoundariesOfParts.run();
        BoundariesOfCounts.run();
        Sentence.finish();
        Check.finish();
    }
}
