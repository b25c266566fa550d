/** Promises 27 to 29: best, bestValue, bestAt. */
public final class BestTest {
    public static void main(String[] args) {
        ofWhole();
        firstOfAlike();
        ofSmall();
        none();
        points();
        latest();
        Check.end();
    }

    private static void ofWhole() {
        RowPresolve x = Told.columns(-3, 3, 2, -3, 3, -1);
        Told.atMost(x, 2, -1, 1);
        Told.equal(x, 1, 1, 1);
        Check.is("best without a small", 1, x.best(false));
        Check.is("value", -1, x.bestValue());
        Check.is("at", 0, x.bestAt(0));
        Check.is("at", 1, x.bestAt(1));
        Check.refuses(x, "at", Check.INDEX, () -> x.bestAt(2));
        Check.refuses(x, "at", Check.INDEX, () -> x.bestAt(-1));
        Check.raises("of the small", Check.STATE, () -> x.best(true));
        Check.is("a call that throws changes nothing", -1, x.bestValue());
        for (int i = 0; i < 3; i++) {
            Check.is("best again", 1, x.best(false));
            Check.is("its value", -1, x.bestValue());
            Check.is("at", 0, x.bestAt(0));
        }
        x.clear();
        Check.is("best of no columns", 1, x.best(false));
        x.column(7, 8, 1);
        Check.is("best of another whole", 1, x.best(false));
        Check.is("its value", 7, x.bestValue());
        Check.is("at", 7, x.bestAt(0));
    }

    private static void firstOfAlike() {
        RowPresolve x = Told.columns(-2, 2, 1, -2, 2, 1, -2, 2, 0);
        Told.atMost(x, 0, -1, -1);
        Check.is("best", 1, x.best(false));
        Check.is("value", 0, x.bestValue());
        Check.is("at", -2, x.bestAt(0));
        Check.is("at", 2, x.bestAt(1));
        Check.is("at", -2, x.bestAt(2));
    }

    private static void ofSmall() {
        RowPresolve x = Told.columns(4, 4, 5, 0, 9, -1, 0, 9, 2, 0, 9, -3);
        Told.equal(x, 9, 0, 1, 1);
        Told.atMost(x, 12, 1, 0, 0, 3);
        x.shrink(Told.rules(6, 9), 50);
        Check.is("best", 1, x.best(true));
        Check.is("value", 20 - 9 - 6, x.bestValue());
        Check.is("a fixed column", 0, x.bestAt(0));
        Check.is("at", 9, x.bestAt(1));
        Check.is("a column that was put in", 0, x.bestAt(2));
        Check.is("at", 2, x.bestAt(3));
        Check.is("best of the whole", 1, x.best(false));
        Check.is("the same value", 5, x.bestValue());
        Check.is("the fixed column", 4, x.bestAt(0));
        Check.raises("at", Check.INDEX, () -> x.bestAt(4));
        Check.is("best of the small again", 1, x.best(true));
        Check.is("value", 5, x.bestValue());
        Check.is("the fixed column", 0, x.bestAt(0));
        RowPresolve rows = Told.columns(0, 9, -1);
        Told.atMost(rows, 4, 1);
        Told.atMost(rows, 7, 1);
        rows.shrink(Told.rules(7), 1);
        Check.is("best", 1, rows.best(true));
        Check.is("by the rows that are there", 4, rows.bestAt(0));
        RowPresolve bare = new RowPresolve();
        bare.shrink(2047, 50);
        Check.is("the one point without columns", 1, bare.best(true));
        Check.is("its value", 0, bare.bestValue());
        Check.raises("at", Check.INDEX, () -> bare.bestAt(0));
    }

    private static void none() {
        RowPresolve x = Told.alike(2, 0, 3);
        Told.equal(x, 5, 2, 2);
        x.shrink(0, 1);
        Check.is("no point fits", 0, x.best(false));
        Check.raises("no best", Check.STATE, x::bestValue);
        Check.raises("no best", Check.STATE, () -> x.bestAt(0));
        Check.raises("no best first", Check.STATE, () -> x.bestAt(9));
        Check.is("nor of the small", 0, x.best(true));
        Check.is("impossible", 0, x.shrink(2047, 50));
        Check.is("of the small", 0, x.best(true));
        Check.raises("no best", Check.STATE, x::bestValue);
        RowPresolve many = Told.alike(3, 0, 9999);
        Told.equal(many, 5, 2, 2);
        Check.is("impossible", 0, many.shrink(2047, 50));
        Check.is("of the small", 0, many.best(true));
        Check.is("of the whole", -1, many.best(false));
        RowPresolve bare = new RowPresolve();
        bare.row(1, 1);
        Check.is("the one point does not fit", 0, bare.best(false));
    }

    private static void points() {
        RowPresolve x = Told.columns(1, 63, 1, 1, 63, -1);
        Check.is("3969 points", 1, x.best(false));
        Check.is("value", -62, x.bestValue());
        RowPresolve y = Told.columns(1, 40, 1, 1, 100, -1);
        Check.is("4000 points", 1, y.best(false));
        Check.is("value", -99, y.bestValue());
        RowPresolve z = Told.columns(0, 4000, -1);
        Check.is("4001 points", -1, z.best(false));
        Check.raises("no best", Check.STATE, z::bestValue);
        z.shrink(Told.rules(6, 8), 50);
        Check.is("one point is left", 1, z.best(true));
        Check.is("value", -4000, z.bestValue());
        z.shrink(0, 50);
        Check.is("4001 points of the small", -1, z.best(true));
        RowPresolve most = Told.alike(12, -10000, 10000);
        Check.is("very many points", -1, most.best(false));
    }

    private static void latest() {
        RowPresolve x = Told.columns(0, 5, -1);
        Told.atMost(x, 3, 1);
        x.shrink(0, 1);
        Check.raises("none yet", Check.STATE, x::bestValue);
        Check.is("best", 1, x.best(true));
        Check.is("value", -3, x.bestValue());
        x.put(0, 1);
        x.back();
        Check.is("put and back leave it", -3, x.bestValue());
        x.clear();
        x.column(0, 9999, 1);
        Check.is("too many", -1, x.best(false));
        Check.raises("no best behind it", Check.STATE, x::bestValue);
        x.clear();
        x.column(0, 1, 1);
        Check.is("best", 1, x.best(false));
        x.row(0, -1);
        Check.raises("ended", Check.STATE, x::bestValue);
        Check.is("none fits", 0, x.best(false));
        Check.raises("no best behind it", Check.STATE, x::bestValue);
    }
}
