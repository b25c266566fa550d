/** Each sentence of the document that names a boundary case, in a test of its own. */
public final class EdgesTest {
    public static void main(String[] args) {
        ExceptionEdges.run();
        TellEdges.run();
        TermEdges.run();
        RowRuleEdges.run();
        ColumnRuleEdges.run();
        SmallEdges.run();
        LookEdges.run();
        PointEdges.run();
        Edges.allPlacesAreNamed();
        Check.end();
    }
}
