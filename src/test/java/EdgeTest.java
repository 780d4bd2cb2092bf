/** Each sentence of the document, one by one, by a test of its own. */
public final class EdgeTest {
    public static void main(String[] args) {
        EdgesOfTexts.run();
        EdgesOfTrade.run();
        EdgesOfOutlook.run();
        EdgesOfYears.run();
        EdgesOfCalls.run();
        EdgesOfAsking.run();
        Edge.nothingIsLeft();
        Kit.end();
    }
}
