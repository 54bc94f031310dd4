/** Each sentence of the document that names a boundary case, with a test of its own. */
public final class EdgesTest {
    public static void main(String[] args) throws Exception {
        Edges e = Edges.open();
        new SheetEdges(e).run();
        new PaymentEdges(e).run();
        new FeatureEdges(e).run();
        new TextEdges(e).run();
        new JudgeEdges(e).run();
        new VerdictEdges(e).run();
        new DriftEdges(e).run();
        new AskedEdges(e).run();
        new RefusalEdges(e).run();
        new CallEdges(e).run();
        e.end();
    }
}
