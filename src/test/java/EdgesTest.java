/** For each sentence of the document that names an edge: calls at it, and on both sides of it. */
public final class EdgesTest {
    private EdgesTest() {
    }

    public static void main(String[] args) {
        TextEdges.test();
        RuleEdges.test();
        SignEdges.test();
        PairEdges.test();
        RowEdges.test();
        ShipEdges.test();
        ImageEdges.test();
        Edges.allPromises();
        Texts.end();
        System.out.println("edges of promises 1 to 40 hold");
    }
}
