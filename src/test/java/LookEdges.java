/** Promises 19 to 22: parts, clique, cliqueAt, same. */
final class LookEdges {
    private static final int[] ONES = {1, 1, 1, 1, 1, 1, 1, 1, 1, 1, 1, 1};

    private LookEdges() {
    }

    static void run() {
        Edges.says("Promise 19", "How many PARTS the small has.", LookEdges::parts);
        Edges.says("Promise 19", "IllegalStateException.",
                () -> Edges.refused("parts()", Check.STATE, Edges::told, x -> x.parts()));
        Edges.says("Promise 20", "How many TERMS THE CLIQUE of a row has (0: there is none, or the row is GONE).",
                LookEdges::cliques);
        Edges.says("Promise 20", "As state().", LookEdges::wrongCliques);
        Edges.says("Promise 21", "TERM i of it, the greatest amount first: its column times 2, and 1 when its "
                + "coefficient is above 0.", LookEdges::cliqueTerms);
        Edges.says("Promise 21", "As state().", LookEdges::wrongCliqueTerms);
        Edges.says("Promise 22", "Whether two columns are THERE and have the same bounds, COST, and coefficient in "
                + "each row that is THERE.", LookEdges::same);
        Edges.says("Promise 22", "As state().", LookEdges::wrongSame);
    }

    private static void parts() {
        RowPresolve none = new RowPresolve();
        none.shrink(0, 1);
        Check.is("no columns", 0, none.parts());
        for (int columns = 1; columns <= 12; columns++) {
            RowPresolve apart = Told.alike(columns, 0, 9);
            apart.shrink(0, 1);
            Check.is("no rows", columns, apart.parts());
            apart.row(0, 5);
            for (int i = 0; i < columns; i++) {
                apart.term(0, i, i % 2 == 0 ? 1 : -1);
            }
            apart.shrink(0, 1);
            Check.is("one row", 1, apart.parts());
        }
        RowPresolve mixed = Told.alike(12, 0, 9);
        Told.atMost(mixed, 5, 1, 0, 0, 1, 0, 0, 1, 0, 0, 1, 0, 0);
        Told.atMost(mixed, 5, 0, 1, 0, 0, 1, 0, 0, 1, 0, 0, 1, 0);
        Told.atMost(mixed, 5, 0, 0, 1, 0, 0, 1, 0, 0, 1, 0, 0, 1);
        mixed.shrink(0, 1);
        Check.is("each third column", 3, mixed.parts());
        RowPresolve fixed = Told.alike(12, 4, 4);
        Told.atMost(fixed, 50, ONES);
        fixed.shrink(Told.rules(6), 1);
        Check.is("none is there", 0, fixed.parts());
        RowPresolve joint = Told.columns(0, 9, 0, 5, 5, 0, 0, 9, 0);
        Told.atMost(joint, 12, 1, 1);
        Told.atMost(joint, 12, 0, 1, 1);
        joint.shrink(0, 1);
        Check.is("by a column that is there", 1, joint.parts());
        joint.shrink(Told.rules(6), 1);
        Check.is("not by one that is fixed", 2, joint.parts());
        RowPresolve gone = Told.alike(2, 0, 9);
        Told.atMost(gone, 18, 1, 1);
        gone.shrink(0, 1);
        Check.is("by a row that is there", 1, gone.parts());
        gone.shrink(Told.rules(4), 1);
        Check.is("not by one that is gone", 2, gone.parts());
        RowPresolve cancelled = Told.alike(3, -9, 9);
        Told.equal(cancelled, 0, 1, 1);
        Told.atMost(cancelled, 0, 1, 1, 1);
        cancelled.shrink(Told.rules(9), 1);
        Check.is("a coefficient that has become 0 is no term", 2, cancelled.parts());
        Check.is("when it is impossible", 1, Edges.impossible().parts());
    }

    private static void cliques() {
        RowPresolve none = Told.columns(0, 1, 0, 0, 2, 0);
        Told.atMost(none, 0);
        Told.atMost(none, 0, 1);
        Told.atMost(none, 0, 0, 1);
        Told.atMost(none, 0, 1, 1);
        none.shrink(0, 1);
        for (int row = 0; row < 4; row++) {
            Check.is("clique(" + row + ")", 0, none.clique(row));
        }
        RowPresolve all = Told.alike(12, 0, 1);
        Told.atMost(all, 1, ONES);
        Told.atMost(all, 2, ONES);
        Told.equal(all, 1, ONES);
        Told.atMost(all, -11, -1, -1, -1, -1, -1, -1, -1, -1, -1, -1, -1, -1);
        Told.atMost(all, -10, -1, -1, -1, -1, -1, -1, -1, -1, -1, -1, -1, -1);
        all.shrink(0, 1);
        int[] due = {12, 0, 12, 12, 0};
        for (int row = 0; row < 5; row++) {
            Check.is("of twelve, row " + row, due[row], all.clique(row));
        }
        RowPresolve two = Told.alike(2, 0, 1);
        Told.atMost(two, 999, 500, 500);
        Told.atMost(two, 1000, 500, 500);
        two.shrink(0, 1);
        Check.is("together above", 2, two.clique(0));
        Check.is("together just so much", 0, two.clique(1));
        two.shrink(Told.rules(4), 1);
        Check.is("the row is gone", 0, two.clique(1));
        RowPresolve twin = Told.alike(2, 0, 1);
        Told.atMost(twin, 1, 1, 1);
        Told.atMost(twin, 1, 1, 1);
        twin.shrink(Told.rules(7), 1);
        Check.is("of two alike ones the one that is there", 2, twin.clique(0));
        Check.is("and the one that is gone", 0, twin.clique(1));
        RowPresolve later = Told.columns(0, 2, 0, 0, 1, 0);
        Told.atMost(later, 1, 1);
        Told.atMost(later, 1, 1, 1);
        later.shrink(0, 1);
        Check.is("before it is narrowed", 0, later.clique(1));
        later.shrink(Told.rules(3), 1);
        Check.is("with the bounds of the small", 2, later.clique(1));
    }

    private static void wrongCliques() {
        for (int row : new int[] {-1, 3, 12, Integer.MIN_VALUE, Integer.MAX_VALUE}) {
            Edges.refused("clique(" + row + ")", Check.INDEX, Edges::found, x -> x.clique(row));
            Edges.refused("no small", Check.STATE, Edges::told, x -> x.clique(row));
        }
        Edges.refused("no small", Check.STATE, Edges::told, x -> x.clique(0));
        Check.is("when it is impossible", 0, Edges.impossible().clique(3));
    }

    private static void cliqueTerms() {
        RowPresolve x = Told.alike(12, 0, 1);
        x.row(0, -1000);
        x.term(0, 0, 1);
        x.term(0, 11, -1000);
        x.term(0, 5, 2);
        x.term(0, 4, -2);
        x.shrink(0, 1);
        Check.is("clique", 4, x.clique(0));
        Check.is("the greatest amount", 22, x.cliqueAt(0, 0));
        Check.is("of alike ones the first", 8, x.cliqueAt(0, 1));
        Check.is("the next", 11, x.cliqueAt(0, 2));
        Check.is("the last", 1, x.cliqueAt(0, 3));
        RowPresolve all = Told.alike(12, 0, 1);
        Told.equal(all, 1, ONES);
        all.shrink(0, 1);
        for (int i = 0; i < 12; i++) {
            Check.is("in their order", 2 * i + 1, all.cliqueAt(0, i));
        }
    }

    private static RowPresolve cliqueOfTwo() {
        RowPresolve x = Told.alike(3, 0, 1);
        Told.atMost(x, 4, 3, 2, 2);
        Told.atMost(x, 9, 3, 2, 2);
        Told.atMost(x, 9);
        x.shrink(Told.rules(4), 1);
        return x;
    }

    private static void wrongCliqueTerms() {
        Check.is("term 1 of 2", 3, cliqueOfTwo().cliqueAt(0, 1));
        for (int i : new int[] {-1, 2, 3, 12, Integer.MIN_VALUE, Integer.MAX_VALUE}) {
            Edges.refused("cliqueAt(0, " + i + ")", Check.INDEX, LookEdges::cliqueOfTwo, x -> x.cliqueAt(0, i));
        }
        for (int row : new int[] {-1, 1, 2, 3, 12, Integer.MIN_VALUE, Integer.MAX_VALUE}) {
            Edges.refused("cliqueAt(" + row + ", 0)", Check.INDEX, LookEdges::cliqueOfTwo, x -> x.cliqueAt(row, 0));
        }
        Edges.refused("no small", Check.STATE, Edges::told, x -> x.cliqueAt(0, 0));
        Edges.refused("no small", Check.STATE, Edges::told, x -> x.cliqueAt(9, -1));
    }

    /** Two columns that are alike but for one thing. */
    private static boolean sameBut(int low, int high, int cost, int a, int b) {
        RowPresolve x = Told.columns(0, 9, 3, low, high, cost);
        Told.atMost(x, 50, 2, a);
        for (int row = 1; row < 12; row++) {
            Told.row(x, row % 2, 5, -1, row == 11 ? b : -1);
        }
        x.shrink(0, 1);
        boolean same = x.same(0, 1);
        Check.is("the other way round", same ? 1 : 0, x.same(1, 0) ? 1 : 0);
        return same;
    }

    private static void same() {
        Check.yes("alike", sameBut(0, 9, 3, 2, -1));
        Check.no("low", sameBut(1, 9, 3, 2, -1));
        Check.no("low", sameBut(-1, 9, 3, 2, -1));
        Check.no("high", sameBut(0, 8, 3, 2, -1));
        Check.no("high", sameBut(0, 10, 3, 2, -1));
        Check.no("cost", sameBut(0, 9, 4, 2, -1));
        Check.no("cost", sameBut(0, 9, -3, 2, -1));
        Check.no("the first row", sameBut(0, 9, 3, 1, -1));
        Check.no("no term", sameBut(0, 9, 3, 0, -1));
        Check.no("the last row", sameBut(0, 9, 3, 2, 1));
        RowPresolve x = Told.alike(12, 0, 9);
        Told.atMost(x, 999, 1, 2);
        x.shrink(0, 1);
        Check.no("a row that is there", x.same(0, 1));
        Check.yes("itself", x.same(0, 0));
        Check.yes("without rows of theirs", x.same(2, 11));
        x.shrink(Told.rules(4), 1);
        Check.yes("a row that is gone", x.same(0, 1));
        RowPresolve small = Edges.small();
        Check.yes("there", small.same(0, 0));
        Check.no("fixed", small.same(2, 2));
        Check.no("put in", small.same(3, 3));
        RowPresolve one = Told.columns(4, 4, 0, 4, 5, 0, 4, 4, 0);
        one.shrink(Told.rules(6, 8), 1);
        Check.no("one is fixed", one.same(0, 1));
        Check.no("the other one is", one.same(1, 0));
        Check.no("both are", one.same(0, 2));
    }

    private static void wrongSame() {
        for (int column : new int[] {-1, 4, 12, Integer.MIN_VALUE, Integer.MAX_VALUE}) {
            Edges.refused("same(" + column + ", 0)", Check.INDEX, Edges::found, x -> x.same(column, 0));
            Edges.refused("same(0, " + column + ")", Check.INDEX, Edges::found, x -> x.same(0, column));
            Edges.refused("beside one that is fixed", Check.INDEX, Edges::found, x -> x.same(2, column));
            Edges.refused("both", Check.INDEX, Edges::found, x -> x.same(column, column));
            Edges.refused("no small", Check.STATE, Edges::told, x -> x.same(column, column));
        }
    }
}
