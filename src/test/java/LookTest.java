/** Promises 19 to 22: parts, clique, cliqueAt, same. */
public final class LookTest {
    public static void main(String[] args) {
        parts();
        partsOfWhatIsThere();
        clique();
        cliqueEdges();
        cliqueOfSmall();
        wrongPlaces();
        same();
        Check.end();
    }

    private static void parts() {
        RowPresolve x = Told.alike(6, 0, 9);
        Told.atMost(x, 20, 0, 0, 1, 0, 1);
        Told.atMost(x, 20, 1, 0, 0, 0, 0, 1);
        x.shrink(0, 1);
        Check.is("parts", 4, x.parts());
        Told.equal(x, 20, 0, 0, 0, 1, 1);
        x.shrink(0, 1);
        Check.is("parts", 3, x.parts());
        Told.equal(x, 20, 0, 0, 0, 1, 0, 1);
        x.shrink(0, 1);
        Check.is("parts", 2, x.parts());
        RowPresolve chain = Told.alike(12, 0, 9);
        for (int i = 10; i >= 0; i--) {
            int row = chain.row(0, 99);
            chain.term(row, i, 1);
            chain.term(row, i + 1, -1);
        }
        chain.shrink(0, 1);
        Check.is("a chain is one part", 1, chain.parts());
        RowPresolve none = new RowPresolve();
        none.row(0, 1);
        none.shrink(0, 1);
        Check.is("no columns", 0, none.parts());
    }

    private static void partsOfWhatIsThere() {
        RowPresolve x = Told.columns(0, 9, 0, 5, 5, 0, 0, 9, 0, 0, 9, 0);
        Told.atMost(x, 20, 1, 1);
        Told.atMost(x, 20, 0, 1, 1);
        Told.atMost(x, 999, 0, 0, 1, 1);
        x.shrink(0, 1);
        Check.is("parts", 1, x.parts());
        x.shrink(Told.rules(6), 1);
        Check.is("a fixed column joins no more", 2, x.parts());
        x.shrink(Told.rules(4, 6), 1);
        Check.is("nor does a row that is gone", 3, x.parts());
    }

    private static void clique() {
        RowPresolve x = Told.alike(5, 0, 1);
        Told.atMost(x, 6, 2, 5, 3, 4, 3);
        x.shrink(0, 1);
        Check.is("clique", 3, x.clique(0));
        Check.is("the greatest", 3, x.cliqueAt(0, 0));
        Check.is("the next", 7, x.cliqueAt(0, 1));
        Check.is("of alike ones the first", 5, x.cliqueAt(0, 2));
        Check.refuses(x, "beyond", Check.INDEX, () -> x.cliqueAt(0, 3));
        x.term(0, 4, -4);
        x.shrink(0, 1);
        Check.is("the least is -4", 0, x.clique(0));
        RowPresolve y = Told.alike(3, 0, 1);
        Told.atMost(y, -2, 3, -4, 2);
        Told.equal(y, 1, 1, 1, 1);
        y.shrink(0, 1);
        Check.is("clique", 3, y.clique(0));
        Check.is("one with a coefficient below 0", 2, y.cliqueAt(0, 0));
        Check.is("one above 0", 1, y.cliqueAt(0, 1));
        Check.is("one above 0", 5, y.cliqueAt(0, 2));
        Check.is("of kind 1", 3, y.clique(1));
        Check.is("in their order", 1, y.cliqueAt(1, 0));
        Check.is("in their order", 3, y.cliqueAt(1, 1));
        Check.is("in their order", 5, y.cliqueAt(1, 2));
    }

    private static void cliqueEdges() {
        RowPresolve x = Told.alike(3, 0, 1);
        Told.atMost(x, 5, 3, 2, 2);
        Told.atMost(x, 4, 3, 2, 2);
        Told.atMost(x, 3, 3, 2, 2);
        Told.atMost(x, 0, 1);
        Told.atMost(x, 0);
        Told.atMost(x, -1, 1, 1);
        x.shrink(0, 1);
        Check.is("together just as much", 0, x.clique(0));
        Check.is("two of three", 2, x.clique(1));
        Check.is("all three", 3, x.clique(2));
        Check.is("one alone is none", 0, x.clique(3));
        Check.is("no terms", 0, x.clique(4));
        Check.is("a row that can't hold", 2, x.clique(5));
        RowPresolve bounds = Told.columns(0, 1, 0, 0, 2, 0, -1, 1, 0, 1, 1, 0, 0, 1, 0, -1, 0, 0);
        Told.atMost(bounds, 1, 1, 1, 1, 1, 1, 1);
        bounds.shrink(0, 1);
        Check.is("only those between 0 and 1; the least is -1", 0, bounds.clique(0));
        bounds.clear();
        bounds.column(0, 1, 0);
        bounds.column(0, 2, 0);
        bounds.column(0, 1, 0);
        Told.atMost(bounds, 1, 1, 5, 1);
        bounds.shrink(0, 1);
        Check.is("clique", 2, bounds.clique(0));
        Check.is("first", 1, bounds.cliqueAt(0, 0));
        Check.is("second", 5, bounds.cliqueAt(0, 1));
    }

    private static void cliqueOfSmall() {
        RowPresolve x = Told.columns(0, 9, 0, 0, 1, 0, 0, 1, 0);
        Told.atMost(x, 1, 1);
        Told.atMost(x, 2, 2, 2, 2);
        Told.atMost(x, 99, 2, 2, 2);
        x.shrink(0, 1);
        Check.is("clique", 2, x.clique(1));
        x.shrink(Told.rules(3, 4), 1);
        Check.is("with the column that was narrowed", 3, x.clique(1));
        Check.is("of a row that is gone", 0, x.clique(2));
        Check.refuses(x, "of a row that is gone", Check.INDEX, () -> x.cliqueAt(2, 0));
    }

    private static void wrongPlaces() {
        RowPresolve x = Told.alike(2, 0, 1);
        Told.atMost(x, 1, 1, 1);
        x.shrink(0, 1);
        Check.refuses(x, "clique", Check.INDEX, () -> x.clique(1));
        Check.refuses(x, "clique", Check.INDEX, () -> x.clique(-1));
        Check.refuses(x, "cliqueAt", Check.INDEX, () -> x.cliqueAt(1, 0));
        Check.refuses(x, "cliqueAt", Check.INDEX, () -> x.cliqueAt(-1, 0));
        Check.refuses(x, "cliqueAt", Check.INDEX, () -> x.cliqueAt(0, -1));
        Check.refuses(x, "cliqueAt", Check.INDEX, () -> x.cliqueAt(0, 2));
        Check.refuses(x, "same", Check.INDEX, () -> x.same(2, 0));
        Check.refuses(x, "same", Check.INDEX, () -> x.same(0, 2));
        Check.refuses(x, "same", Check.INDEX, () -> x.same(-1, 0));
        Check.refuses(x, "same", Check.INDEX, () -> x.same(0, -1));
    }

    private static void same() {
        RowPresolve x = Told.columns(0, 9, 1, 0, 9, 1, 0, 9, 2, 0, 8, 1, 1, 9, 1, 0, 9, 1, 0, 9, 1, 4, 4, 0, 4, 4, 0);
        Told.atMost(x, 50, 1, 1, 1, 1, 1, 2, 1);
        Told.equal(x, 50, 3, 3, 3, 3, 3, 3);
        Told.atMost(x, 9999, 3, 4);
        x.shrink(0, 1);
        Check.yes("itself", x.same(0, 0));
        Check.no("a row apart", x.same(0, 1));
        x.shrink(Told.rules(4, 6), 1);
        Check.yes("when that row is gone", x.same(0, 1));
        Check.yes("the other way round", x.same(1, 0));
        Check.no("cost", x.same(0, 2));
        Check.no("high", x.same(0, 3));
        Check.no("low", x.same(0, 4));
        Check.no("a coefficient", x.same(0, 5));
        Check.no("a term less", x.same(0, 6));
        Check.no("fixed", x.same(7, 8));
        Check.no("fixed itself", x.same(7, 7));
        Check.no("fixed and there", x.same(7, 0));
        Check.no("there and fixed", x.same(0, 7));
        RowPresolve y = Told.columns(4, 4, 0, 4, 9, 0);
        y.shrink(Told.rules(6, 8), 1);
        Check.is("one is fixed", 1, y.state(0));
        Check.is("one is there", 0, y.state(1));
        Check.no("alike but for that", y.same(0, 1));
        Check.no("alike but for that", y.same(1, 0));
        Check.yes("itself", y.same(1, 1));
    }
}
