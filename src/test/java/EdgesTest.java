// A test for each sentence of the document's terms and promises, standing on the edges that it names.
public final class EdgesTest {
    public static void main(String[] args) {
        EdgesOfPartOne.run();
        EdgesOfTexts.run();
        EdgesOfWhatComes.run();
        EdgesOfTheLedger.run();
        EdgesOfTelling.run();
        EdgesOfDoing.run();
        EdgesOfLooking.run();
        EdgesOfPlaces.run();
        EdgesOfCounting.run();
        Edges.allSentences();
        lastCall();
        Due.end();
    }

    // "An object is used for at most 512 calls after it has been made": the last of them answers as all do.
    private static void lastCall() {
        FarSide x = new FarSide();
        x.person(0, 99);
        for (int call = 2; call <= 511; call++) {
            x.hour(1);
        }
        Due.is("the 512th call", x.is(0), 510);
    }
}
