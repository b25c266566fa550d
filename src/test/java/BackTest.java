/** Promises 23 to 26: put, back, at, value. */
public final class BackTest {
    public static void main(String[] args) {
        put();
        back();
        backOfWrongPoint();
        backLastFirst();
        latest();
        withoutColumns();
        Check.end();
    }

    private static void put() {
        RowPresolve x = Told.columns(-2, 3, 1, 4, 4, 1, -9, 9, 1, -9, 9, 1);
        Told.equal(x, 0, 0, 0, 1, 1);
        x.shrink(Told.rules(6, 9), 1);
        Check.refuses(x, "below", Check.ARGUMENT, () -> x.put(0, -3));
        Check.refuses(x, "above", Check.ARGUMENT, () -> x.put(0, 4));
        Check.refuses(x, "far", Check.ARGUMENT, () -> x.put(0, Integer.MIN_VALUE));
        Check.refuses(x, "fixed", Check.ARGUMENT, () -> x.put(1, 4));
        Check.refuses(x, "put in", Check.ARGUMENT, () -> x.put(3, 0));
        Check.refuses(x, "no column", Check.INDEX, () -> x.put(4, 0));
        Check.refuses(x, "no column", Check.INDEX, () -> x.put(-1, 99));
        Check.refuses(x, "nothing was put", Check.STATE, x::back);
        x.put(0, -2);
        Check.refuses(x, "one is missing", Check.STATE, x::back);
        x.put(2, 9);
        Check.is("back", 1, x.back());
        Check.is("at", -2, x.at(0));
        x.put(0, 3);
        Check.refuses(x, "wrong number", Check.ARGUMENT, () -> x.put(0, 4));
        Check.is("back", 1, x.back());
        Check.is("at", 3, x.at(0));
        Check.is("at", 4, x.at(1));
        Check.is("at", 9, x.at(2));
        Check.is("at", -9, x.at(3));
        Check.is("value", 7, x.value());
        Check.refuses(x, "at", Check.INDEX, () -> x.at(4));
        Check.refuses(x, "at", Check.INDEX, () -> x.at(-1));
        x.shrink(Told.rules(6, 9), 1);
        x.put(2, 0);
        Check.refuses(x, "what was put before is gone", Check.STATE, x::back);
        RowPresolve y = Told.alike(1, 0, 9);
        Told.atMost(y, 5, 1);
        y.shrink(Told.rules(3), 1);
        Check.raises("bounds of the small", Check.ARGUMENT, () -> y.put(0, 6));
        y.put(0, 5);
    }

    private static void back() {
        RowPresolve x = Told.columns(0, 9, 3, 0, 9, -2, 4, 4, 10);
        Told.equal(x, 9, 1, 1);
        Told.atMost(x, 8, 1, 0, 1);
        Check.is("shrink", 2, x.shrink(Told.rules(6, 9), 50));
        x.put(0, 4);
        Check.is("back", 1, x.back());
        Check.is("at", 4, x.at(0));
        Check.is("at", 5, x.at(1));
        Check.is("at", 4, x.at(2));
        Check.is("value", 12 - 10 + 40, x.value());
        Check.is("back once more", 1, x.back());
    }

    private static void backOfWrongPoint() {
        RowPresolve x = Told.columns(0, 9, 3, 0, 9, 1);
        Told.atMost(x, 8, 1, 1);
        Told.equal(x, 3, 0, 1);
        x.shrink(0, 1);
        int[][] points = {{5, 3, 1}, {6, 3, 0}, {5, 2, 0}, {4, 4, 0}, {0, 3, 1}};
        for (int[] point : points) {
            x.put(0, point[0]);
            x.put(1, point[1]);
            Check.is("back of " + point[0] + ", " + point[1], point[2], x.back());
            Check.is("at", point[0], x.at(0));
            Check.is("value", 3 * point[0] + point[1], x.value());
        }
        RowPresolve y = Told.alike(2, 0, 9);
        Told.atMost(y, -5, 1, -1);
        y.shrink(Told.rules(5), 1);
        y.put(0, 4);
        y.put(1, 5);
        Check.is("a row of the whole does not hold", 0, y.back());
    }

    /** Column 2 was put in for 1, then 1 for 0: 1 must be known before 2 is. */
    private static void backLastFirst() {
        RowPresolve x = Told.columns(-9, 9, 1, -99, 99, 1, -99, 99, 1, -9999, 9999, 1);
        Told.equal(x, 1, 0, 2, -1);
        Told.equal(x, -1, 3, -1);
        Told.equal(x, 5, 1, 1, 1, -1);
        x.shrink(Told.rules(9, 11), 50);
        Check.is("state", 2, x.state(1));
        Check.is("state", 2, x.state(2));
        Check.is("state", 2, x.state(3));
        Check.is("column 2 first", 2, x.act(0, 2) == 1 ? x.act(2, 2) : x.act(0, 2));
        x.put(0, 2);
        Check.is("back", 1, x.back());
        Check.is("at", 7, x.at(1));
        Check.is("at", 13, x.at(2));
        Check.is("at", 17, x.at(3));
        Check.is("value", 39, x.value());
        x.best(true);
        long least = x.bestValue();
        x.put(0, x.bestAt(0));
        x.back();
        Check.is("the least value turned back", least, x.value());
    }

    private static void latest() {
        RowPresolve x = Told.columns(0, 9, 1);
        x.shrink(0, 1);
        Check.raises("at", Check.STATE, () -> x.at(0));
        Check.raises("value", Check.STATE, x::value);
        x.put(0, 1);
        Check.raises("at", Check.STATE, () -> x.at(0));
        x.back();
        x.put(0, 2);
        Check.is("what was turned back stays", 1, x.at(0));
        Check.is("value", 1, x.value());
        x.best(true);
        Check.is("behind best too", 1, x.at(0));
        x.back();
        Check.is("the latest", 2, x.at(0));
        Check.raises("no such column", Check.INDEX, () -> x.at(1));
    }

    private static void withoutColumns() {
        RowPresolve x = new RowPresolve();
        x.row(0, -1);
        x.shrink(0, 1);
        Check.is("a row does not hold", 0, x.back());
        Check.is("value", 0, x.value());
        RowPresolve y = Told.columns(5, 5, 7);
        y.shrink(Told.rules(6), 1);
        Check.is("nothing to be put", 1, y.back());
        Check.is("at", 5, y.at(0));
        Check.is("value", 35, y.value());
    }
}
