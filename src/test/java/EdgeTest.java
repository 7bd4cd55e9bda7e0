/** Each sentence of the document that names a boundary, on both sides of it. */
public final class EdgeTest {
    public static void main(String[] args) {
        Check check = new Check("EdgeTest");
        Edges edges = new Edges(check);
        new EdgesOfBuffer(edges).run();
        new EdgesOfText(edges).run();
        new EdgesOfMarket(edges).run();
        new EdgesOfState(edges).run();
        new EdgesOfCries(edges).run();
        new EdgesOfChanges(edges).run();
        new EdgesOfUndo(edges).run();
        check.needPromises(65);
        check.finish();
    }
}
