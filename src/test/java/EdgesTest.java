/** Each sentence of the document by its edges, told in rows; and that no sentence is without a test. */
public final class EdgesTest {
    public static void main(String[] args) {
        FindingsEdges.all();
        BlocksEdges.all();
        TicksEdges.all();
        LawEdges.all();
        AheadEdges.all();
        SheetsEdges.all();
        ImagesEdges.all();
        Document.checkAllAsked();
        Check.end();
    }
}
