/** Promises 1 to 5: a new object, column, row, term, clear. */
public final class WholeTest {
    public static void main(String[] args) {
        newObject();
        columns();
        rows();
        terms();
        clearing();
        endings();
        Check.end();
    }

    private static void newObject() {
        RowPresolve x = new RowPresolve();
        Check.raises("offset", Check.STATE, x::offset);
        Check.raises("state", Check.STATE, () -> x.state(0));
        Check.raises("term", Check.INDEX, () -> x.term(0, 0, 1));
        Check.is("best of nothing", 1, x.best(false));
        Check.is("its value", 0, x.bestValue());
        Check.is("clear", 0, x.clear());
        Check.is("shrink of nothing", 1, x.shrink(2047, 50));
        Check.raises("state", Check.INDEX, () -> x.state(0));
        Check.raises("kind", Check.INDEX, () -> x.kind(0));
        Check.is("offset", 0, x.offset());
    }

    private static void columns() {
        RowPresolve x = new RowPresolve();
        Check.is("column", 0, x.column(-10000, 10000, 1000));
        Check.is("column", 1, x.column(10000, 10000, -1000));
        Check.is("column", 2, x.column(-10000, -10000, 0));
        x.shrink(0, 1);
        Check.columnIs(x, 0, 0, -10000, 10000, 1000);
        Check.columnIs(x, 1, 0, 10000, 10000, -1000);
        Check.columnIs(x, 2, 0, -10000, -10000, 0);
        int[][] wrong = {
            {-10001, 0, 0}, {0, 10001, 0}, {1, 0, 0}, {0, 0, 1001}, {0, 0, -1001}, {10001, 10001, 0},
            {-10001, -10001, 0}, {Integer.MIN_VALUE, 0, 0}, {0, Integer.MAX_VALUE, 0}, {0, 0, Integer.MIN_VALUE},
        };
        for (int[] w : wrong) {
            Check.refuses(x, "wrong column", Check.ARGUMENT, () -> x.column(w[0], w[1], w[2]));
        }
        for (int i = 3; i < 12; i++) {
            Check.is("column", i, x.column(0, i, 0));
        }
        x.shrink(0, 1);
        Check.refuses(x, "column 12", Check.STATE, () -> x.column(0, 0, 0));
        Check.refuses(x, "a wrong column 12", Check.STATE, () -> x.column(1, 0, 0));
        Check.columnIs(x, 11, 0, 0, 11, 0);
    }

    private static void rows() {
        RowPresolve x = new RowPresolve();
        Check.is("row", 0, x.row(0, 1000000));
        Check.is("row", 1, x.row(1, -1000000));
        x.shrink(0, 1);
        Check.rowIs(x, 0, 0, 1000000);
        Check.rowIs(x, 1, 1, -1000000);
        int[][] wrong = {
            {2, 0}, {-1, 0}, {0, 1000001}, {1, -1000001}, {0, Integer.MIN_VALUE}, {Integer.MAX_VALUE, 0},
        };
        for (int[] w : wrong) {
            Check.refuses(x, "wrong row", Check.ARGUMENT, () -> x.row(w[0], w[1]));
        }
        for (int i = 2; i < 12; i++) {
            Check.is("row", i, x.row(0, i));
        }
        x.shrink(0, 1);
        Check.refuses(x, "row 12", Check.STATE, () -> x.row(0, 0));
        Check.refuses(x, "a wrong row 12", Check.STATE, () -> x.row(2, 0));
        Check.rowIs(x, 11, 0, 11);
    }

    private static void terms() {
        RowPresolve x = Told.alike(2, 0, 5);
        Told.atMost(x, 3);
        Told.equal(x, 4);
        x.term(0, 1, 1000);
        x.term(1, 0, -1000);
        x.shrink(0, 1);
        Check.rowIs(x, 0, 0, 3, 0, 1000);
        Check.rowIs(x, 1, 1, 4, -1000, 0);
        x.term(0, 1, 0);
        x.term(1, 0, 7);
        x.shrink(0, 1);
        Check.rowIs(x, 0, 0, 3, 0, 0);
        Check.rowIs(x, 1, 1, 4, 7, 0);
        Check.refuses(x, "term", Check.ARGUMENT, () -> x.term(0, 0, 1001));
        Check.refuses(x, "term", Check.ARGUMENT, () -> x.term(0, 0, -1001));
        Check.refuses(x, "term", Check.ARGUMENT, () -> x.term(1, 1, Integer.MIN_VALUE));
        Check.refuses(x, "term", Check.INDEX, () -> x.term(2, 0, 1));
        Check.refuses(x, "term", Check.INDEX, () -> x.term(-1, 0, 1));
        Check.refuses(x, "term", Check.INDEX, () -> x.term(0, 2, 1));
        Check.refuses(x, "term", Check.INDEX, () -> x.term(0, -1, 1));
        Check.refuses(x, "both wrong", Check.INDEX, () -> x.term(0, 2, 1001));
        Check.refuses(x, "both wrong", Check.INDEX, () -> x.term(Integer.MAX_VALUE, 0, 1001));
    }

    private static void clearing() {
        RowPresolve x = Told.alike(3, 0, 5);
        Told.atMost(x, 3, 1, 2, 3);
        x.shrink(0, 1);
        Check.is("clear", 3, x.clear());
        Check.raises("offset", Check.STATE, x::offset);
        Check.raises("term", Check.INDEX, () -> x.term(0, 0, 1));
        Check.is("clear again", 0, x.clear());
        Check.is("column", 0, x.column(1, 2, 3));
        Check.is("row", 0, x.row(1, 9));
        x.shrink(0, 1);
        Check.columnIs(x, 0, 0, 1, 2, 3);
        Check.rowIs(x, 0, 1, 9, 0);
        Check.raises("kind", Check.INDEX, () -> x.kind(1));
        Check.raises("state", Check.INDEX, () -> x.state(1));
    }

    /** What ends the small, what was put, what was turned back, and the best. */
    private static void endings() {
        Check.Call[] none = new Check.Call[1];
        for (int i = 0; i < 5; i++) {
            RowPresolve x = Told.columns(0, 1, 1);
            Told.atMost(x, 1, 1);
            x.shrink(0, 1);
            x.put(0, 1);
            Check.is("back", 1, x.back());
            Check.is("best", 1, x.best(false));
            none[0] = new Check.Call[] {
                () -> x.column(0, 0, 0), () -> x.row(0, 0), () -> x.term(0, 0, 1), x::clear, () -> x.shrink(0, 1),
            }[i];
            none[0].run();
            Check.raises("bestValue", Check.STATE, x::bestValue);
            Check.raises("value", Check.STATE, x::value);
            Check.raises("at", Check.STATE, () -> x.at(0));
            if (i < 4) {
                Check.raises("offset", Check.STATE, x::offset);
                Check.raises("best of the small", Check.STATE, () -> x.best(true));
                x.shrink(0, 1);
            }
            if (i != 3) {
                Check.raises("back", Check.STATE, x::back);
            }
        }
    }
}
