/** Each sentence of the document that names an edge, on both sides of it; no sentence of its terms and promises is left out. */
final class EdgeTest {
    public static void main(String[] args) {
        EdgesOfTerms.test();
        EdgesOfChain.test();
        EdgesOfStories.test();
        EdgesOfSure.test();
        EdgesOfHouses.test();
        EdgesOfRows.test();
        EdgesOfHost.test();
        EdgesOfKept.test();
        Check.about("each sentence");
        for (String words : Sentence.untested()) {
            Check.holds("a test names '" + words + "'", false);
        }
        Check.end();
    }
}
