/** Promises 23 to 29: put, back, at, value, best, bestValue, bestAt. */
final class PointEdges {
    private PointEdges() {
    }

    static void run() {
        putAndBack();
        best();
    }

    private static void putAndBack() {
        Edges.says("Promise 23", "A number is put for a column of the small.", PointEdges::put);
        Edges.says("Promise 23", "IllegalStateException: also when it is IMPOSSIBLE", PointEdges::putImpossible);
        Edges.says("Promise 23", "IndexOutOfBoundsException; IllegalArgumentException: the column is not THERE, or the "
                + "number not from its LOW to its HIGH", PointEdges::wrongPuts);
        Edges.says("Promise 24", "The POINT that was put is TURNED BACK: whether it FITS the whole: 1, 0.",
                PointEdges::back);
        Edges.says("Promise 24", "IllegalStateException: also when it is IMPOSSIBLE, or a column that is THERE was not "
                + "put.", PointEdges::wrongBacks);
        Edges.says("Promise 25", "The number of a column in the POINT that was TURNED BACK latest.", PointEdges::at);
        Edges.says("Promise 25", "IllegalStateException: also when none was; IndexOutOfBoundsException.",
                PointEdges::wrongAts);
        Edges.says("Promise 26", "Its VALUE in the whole.", PointEdges::value);
        Edges.says("Promise 26", "IllegalStateException: also when none was.", PointEdges::wrongValues);
    }

    private static void best() {
        Edges.says("Promise 27", "The BEST of the whole, or of the small: 1", PointEdges::bests);
        Edges.says("Promise 27", "0: no POINT FITS (of the small: also when it is IMPOSSIBLE)", PointEdges::noneFits);
        Edges.says("Promise 27", "NONE: it has more than 4000 POINTS (and is not IMPOSSIBLE)", PointEdges::manyPoints);
        Edges.says("Promise 27", "behind 0 and NONE there is no BEST", PointEdges::noBestBehind);
        Edges.says("Promise 27", "IllegalStateException: of the small, when there is none.", PointEdges::noSmall);
        Edges.says("Promise 28", "The VALUE of the BEST that was found by the latest best().", PointEdges::bestValue);
        Edges.says("Promise 28", "IllegalStateException: it found none, or there was none.",
                () -> noBest(x -> x.bestValue()));
        Edges.says("Promise 29", "Its number of a column (0 for a column that is not THERE, when it is the small's).",
                PointEdges::bestAt);
        Edges.says("Promise 29", "IllegalStateException: as bestValue(); IndexOutOfBoundsException.",
                PointEdges::wrongBestAts);
    }

    private static void put() {
        RowPresolve x = Told.columns(-10000, 10000, 1);
        x.shrink(0, 1);
        for (int number : new int[] {-10000, 10000, 0, -9999}) {
            x.put(0, number);
            Check.is("back", 1, x.back());
            Check.is("at", number, x.at(0));
        }
        x.put(0, 5);
        x.put(0, 6);
        x.back();
        Check.is("the later one", 6, x.at(0));
        RowPresolve one = Told.columns(3, 3, 1);
        one.shrink(0, 1);
        one.put(0, 3);
        Check.is("one number", 1, one.back());
        RowPresolve all = Told.alike(12, 0, 11);
        all.shrink(0, 1);
        for (int column = 11; column >= 0; column--) {
            all.put(column, column);
        }
        all.back();
        for (int column = 0; column < 12; column++) {
            Check.is("at(" + column + ")", column, all.at(column));
        }
    }

    private static void putImpossible() {
        int[][] puts = {{0, 0}, {0, 2}, {-1, 0}, {4, 0}, {2, 4}};
        for (int[] p : puts) {
            Edges.refused("put(" + p[0] + ", " + p[1] + ")", Check.STATE, Edges::impossible, x -> x.put(p[0], p[1]));
            Edges.refused("no small", Check.STATE, Edges::told, x -> x.put(p[0], p[1]));
        }
        RowPresolve again = Edges.impossible();
        again.shrink(0, 1);
        again.put(0, 1);
        Check.raises("one is put, the others are not", Check.STATE, again::back);
    }

    /** Of found() the columns are 0 .. 1, 0 .. 5, FIXED at 4, PUT IN. */
    private static void wrongPuts() {
        int[][] wrong = {{0, -1}, {0, 2}, {1, -1}, {1, 6}, {2, 3}, {2, 4}, {2, 5}, {3, 0}, {3, 99},
            {0, Integer.MIN_VALUE}, {0, Integer.MAX_VALUE}};
        for (int[] w : wrong) {
            Edges.refused("put(" + w[0] + ", " + w[1] + ")", Check.ARGUMENT, Edges::found, x -> x.put(w[0], w[1]));
            Edges.refused("put(" + w[0] + ", " + w[1] + ")", Check.ARGUMENT, Edges::small, x -> x.put(w[0], w[1]));
        }
        for (int column : new int[] {-1, 4, 12, Integer.MIN_VALUE, Integer.MAX_VALUE}) {
            Edges.refused("put(" + column + ", 0)", Check.INDEX, Edges::found, x -> x.put(column, 0));
            Edges.refused("put(" + column + ", -99)", Check.INDEX, Edges::found, x -> x.put(column, -99));
        }
        RowPresolve narrowed = Told.alike(1, 0, 9);
        Told.atMost(narrowed, 5, 1);
        Told.atMost(narrowed, -2, -1);
        narrowed.shrink(Told.rules(3), 1);
        Check.raises("below the low of the small", Check.ARGUMENT, () -> narrowed.put(0, 1));
        Check.raises("above the high of the small", Check.ARGUMENT, () -> narrowed.put(0, 6));
        narrowed.put(0, 2);
        Check.is("at the low", 1, narrowed.back());
        narrowed.put(0, 5);
        Check.is("at the high", 1, narrowed.back());
    }

    private static void back() {
        RowPresolve x = Told.columns(0, 9, 0, 0, 9, 0);
        Told.atMost(x, 8, 1, 1);
        x.shrink(0, 1);
        int[][] points = {{4, 4, 1}, {4, 5, 0}, {8, 0, 1}, {0, 9, 0}, {0, 0, 1}};
        for (int[] p : points) {
            x.put(0, p[0]);
            x.put(1, p[1]);
            Check.is("back of " + p[0] + ", " + p[1], p[2], x.back());
            Check.is("at, whether it fits or not", p[0], x.at(0));
        }
        Check.is("what was put stays", 1, x.back());
        RowPresolve bare = new RowPresolve();
        bare.shrink(0, 1);
        Check.is("no columns", 1, bare.back());
        RowPresolve gone = Told.columns(0, 9, -1, 0, 9, -1);
        Told.atMost(gone, 8, 1, 1);
        Told.atMost(gone, 9, 1, 1);
        Told.equal(gone, 9, 1, 2);
        gone.shrink(Told.rules(7, 9), 1);
        Check.is("column 0 is put in", 2, gone.state(0));
        for (int number = 0; number <= 4; number++) {
            gone.put(1, number);
            Check.is("9 - " + number + " fits", number >= 1 ? 1 : 0, gone.back());
            Check.is("at", 9 - 2 * number, gone.at(0));
        }
    }

    private static void wrongBacks() {
        Edges.refused("impossible", Check.STATE, Edges::impossible, x -> x.back());
        Edges.refused("no small", Check.STATE, Edges::told, x -> x.back());
        Edges.refused("nothing is put", Check.STATE, Edges::small, x -> x.back());
        for (int left = 0; left < 12; left++) {
            int column = left;
            Edges.refused("all but " + left, Check.STATE, () -> putAllBut(column), x -> x.back());
        }
        Check.is("all", 1, putAllBut(12).back());
        RowPresolve rest = Edges.small();
        rest.put(0, 1);
        Check.raises("one of two", Check.STATE, rest::back);
        rest.put(1, 0);
        Check.is("fixed and put in ones need none", 1, rest.back());
        RowPresolve bare = new RowPresolve();
        bare.row(0, -1);
        bare.shrink(1, 1);
        Check.raises("impossible without columns", Check.STATE, bare::back);
    }

    private static RowPresolve putAllBut(int left) {
        RowPresolve x = Told.alike(12, 0, 1);
        x.shrink(0, 1);
        for (int column = 0; column < 12; column++) {
            if (column != left) {
                x.put(column, 1);
            }
        }
        return x;
    }

    private static void at() {
        RowPresolve x = Edges.found();
        int[] due = {1, 3, 4, 3};
        for (int column = 0; column < 4; column++) {
            Check.is("at(" + column + ")", due[column], x.at(column));
        }
        x.back();
        int[] later = {1, 2, 4, 2};
        for (int column = 0; column < 4; column++) {
            Check.is("then at(" + column + ")", later[column], x.at(column));
        }
        x.best(false);
        x.best(true);
        Check.is("best leaves it", 2, x.at(1));
        RowPresolve ends = Told.columns(-10000, 10000, 0, -10000, 10000, 0);
        Told.equal(ends, 0, 1, 1);
        ends.shrink(Told.rules(9), 1);
        ends.put(0, -10000);
        ends.back();
        Check.is("the greatest", 10000, ends.at(1));
        ends.put(0, 10000);
        ends.back();
        Check.is("the least", -10000, ends.at(1));
    }

    private static void wrongAts() {
        for (int column : new int[] {-1, 4, 12, Integer.MIN_VALUE, Integer.MAX_VALUE}) {
            Edges.refused("at(" + column + ")", Check.INDEX, Edges::found, x -> x.at(column));
            Edges.refused("none was turned back", Check.STATE, Edges::small, x -> x.at(column));
            Edges.refused("no small", Check.STATE, Edges::told, x -> x.at(column));
        }
        Edges.refused("none was turned back", Check.STATE, Edges::small, x -> x.at(0));
        Edges.refused("put, not turned back", Check.STATE, () -> putAllBut(12), x -> x.at(0));
        Edges.refused("refused", Check.STATE, () -> putAllBut(11), x -> x.at(0));
    }

    private static void value() {
        RowPresolve x = Edges.found();
        Check.is("of the whole", 2 - 3 + 12 + 3, x.value());
        RowPresolve wrong = Told.columns(0, 9, 1000);
        Told.atMost(wrong, 5, 1);
        wrong.shrink(0, 1);
        wrong.put(0, 9);
        Check.is("does not fit", 0, wrong.back());
        Check.is("its value", 9000, wrong.value());
        RowPresolve far = ColumnRuleEdges.farNumbers();
        far.shrink(Told.rules(6, 9), 1);
        far.put(0, 10000);
        far.back();
        Check.is("though costs and offset are great", 0, far.value());
    }

    private static void wrongValues() {
        Edges.refused("none was turned back", Check.STATE, Edges::small, x -> x.value());
        Edges.refused("put, not turned back", Check.STATE, () -> putAllBut(12), x -> x.value());
        Edges.refused("no small", Check.STATE, Edges::told, x -> x.value());
        Edges.refused("impossible", Check.STATE, Edges::impossible, x -> x.value());
        RowPresolve none = new RowPresolve();
        none.shrink(0, 1);
        Check.raises("without columns too", Check.STATE, none::value);
    }

    private static void bests() {
        RowPresolve x = Edges.small();
        Check.is("of the whole", 1, x.best(false));
        long value = x.bestValue();
        Check.is("of the small", 1, x.best(true));
        Check.is("the same value", value, x.bestValue());
        Check.is("without a small", 1, Edges.told().best(false));
        RowPresolve one = Told.columns(-4, -4, 1);
        one.shrink(0, 1);
        Check.is("one point", 1, one.best(true));
        Check.is("its value", -4, one.bestValue());
    }

    private static void noneFits() {
        RowPresolve x = Told.alike(2, 0, 3);
        Told.equal(x, 7, 1, 1);
        Check.is("one too many", 0, x.best(false));
        x.shrink(0, 1);
        Check.is("of the small", 0, x.best(true));
        x.shrink(Told.rules(4), 1);
        Check.is("when it is impossible", 0, x.best(true));
        RowPresolve just = Told.alike(2, 0, 3);
        Told.equal(just, 6, 1, 1);
        Check.is("just one point fits", 1, just.best(false));
        Check.is("the last one", 3, just.bestAt(0));
        Check.is("impossible", 0, Edges.impossible().best(true));
        Check.is("the whole then", 0, Edges.impossible().best(false));
    }

    private static int bestOf(boolean small, int... counts) {
        RowPresolve x = new RowPresolve();
        for (int count : counts) {
            x.column(-10000, -10000 + count - 1, -1);
        }
        x.shrink(0, 1);
        int found = x.best(small);
        long value = 0;
        for (int count : counts) {
            value += 10000 - count + 1;
        }
        if (found == 1) {
            Check.is("the last point is the best", value, x.bestValue());
        }
        return found;
    }

    private static void manyPoints() {
        for (int i = 0; i < 2; i++) {
            boolean small = i == 1;
            Check.is("3999", 1, bestOf(small, 3999));
            Check.is("4000", 1, bestOf(small, 4000));
            Check.is("4001", -1, bestOf(small, 4001));
            Check.is("40 times 100", 1, bestOf(small, 40, 100));
            Check.is("2 times 2001", -1, bestOf(small, 2, 2001));
            Check.is("2 to the 11", 1, bestOf(small, 2, 2, 2, 2, 2, 2, 2, 2, 2, 2, 2, 1));
            Check.is("2 to the 12", -1, bestOf(small, 2, 2, 2, 2, 2, 2, 2, 2, 2, 2, 2, 2));
            Check.is("2 to the 33", -1, bestOf(small, 2048, 2048, 2048));
            Check.is("2 to the 65", -1, bestOf(small, 8192, 8192, 8192, 8192, 8192));
            Check.is("2 to the 66", -1, bestOf(small, 2048, 2048, 2048, 2048, 2048, 2048));
            Check.is("20001 to the 12", -1, bestOf(small, 20001, 20001, 20001, 20001, 20001, 20001, 20001, 20001,
                    20001, 20001, 20001, 20001));
        }
        RowPresolve few = Told.columns(0, 4000, 1, 0, 3999, 1);
        Told.equal(few, 7, 1);
        few.shrink(Told.rules(3, 6), 1);
        Check.is("the whole", -1, few.best(false));
        Check.is("the small has 4000", 1, few.best(true));
        RowPresolve many = Told.columns(0, 9999, 1);
        Told.equal(many, 1);
        Check.is("impossible", 0, many.shrink(1, 1));
        Check.is("of the small", 0, many.best(true));
        Check.is("of the whole", -1, many.best(false));
    }

    private static void noBestBehind() {
        RowPresolve x = Told.columns(0, 9999, 1);
        Told.atMost(x, 5, 1);
        x.shrink(Told.rules(3), 1);
        Check.is("of the small", 1, x.best(true));
        Check.is("its value", 0, x.bestValue());
        Check.is("of the whole", -1, x.best(false));
        Check.raises("no best behind NONE", Check.STATE, x::bestValue);
        Check.raises("no best behind NONE", Check.STATE, () -> x.bestAt(0));
        RowPresolve y = Told.columns(0, 9, 1);
        Told.equal(y, 1, 2);
        y.shrink(Told.rules(2), 1);
        Check.is("none fits", 0, y.best(true));
        Check.raises("no best behind 0", Check.STATE, y::bestValue);
        y.term(0, 0, 1);
        Check.is("best", 1, y.best(false));
        y.shrink(0, 1);
        Check.is("best", 1, y.best(true));
        RowPresolve z = Told.columns(0, 9, 1);
        Told.equal(z, 1, 2);
        Check.is("none fits", 0, z.best(false));
        Check.raises("no best behind 0", Check.STATE, () -> z.bestAt(0));
    }

    private static void noSmall() {
        Edges.refused("told", Check.STATE, Edges::told, x -> x.best(true));
        Edges.refused("new", Check.STATE, RowPresolve::new, x -> x.best(true));
        RowPresolve x = Edges.told();
        x.best(false);
        long value = x.bestValue();
        Check.raises("of the small", Check.STATE, () -> x.best(true));
        Check.is("the best before stays", value, x.bestValue());
    }

    private static void bestValue() {
        RowPresolve x = Told.columns(0, 5, -1, 2, 2, 10);
        Told.atMost(x, 3, 1);
        x.shrink(Told.rules(6), 1);
        x.best(true);
        Check.is("with the offset", 20 - 3, x.bestValue());
        Check.is("asked again", 20 - 3, x.bestValue());
        x.put(0, 1);
        x.back();
        Check.is("put and back leave it", 20 - 3, x.bestValue());
        RowPresolve latest = Told.columns(-7, -5, 1, 3, 4, -1);
        for (int i = 0; i < 3; i++) {
            Check.is("best", 1, latest.best(false));
            Check.is("each time the same", -7 - 4, latest.bestValue());
            Check.is("and at the same point", -7, latest.bestAt(0));
            Check.is("and at the same point", 4, latest.bestAt(1));
        }
        latest.row(0, -5);
        latest.term(0, 1, -3);
        latest.term(0, 0, -1);
        latest.shrink(Told.rules(8), 1);
        Check.is("of the small then", 1, latest.best(true));
        Check.is("its value", -7 - 4, latest.bestValue());
        RowPresolve ends = new RowPresolve();
        for (int i = 0; i < 12; i++) {
            ends.column(10000, 10000, i % 2 == 0 ? 1000 : 999);
        }
        ends.best(false);
        Check.is("a great one", 119940000L, ends.bestValue());
        ends.clear();
        ends.best(false);
        Check.is("of nothing", 0, ends.bestValue());
    }

    private static void noBest(Edges.Use call) {
        Edges.Make[] objects = {
            RowPresolve::new, Edges::told, Edges::small, Edges::impossible,
            () -> bestIs(0), () -> bestIs(-1), () -> ended(0), () -> ended(1), () -> ended(2), () -> ended(3),
        };
        for (Edges.Make make : objects) {
            Edges.refused("no best", Check.STATE, make, call);
        }
    }

    private static RowPresolve bestIs(int due) {
        RowPresolve x = Told.columns(0, due == 0 ? 9 : 9999, 1);
        x.best(false);
        Told.equal(x, 1, 2);
        Check.is("best", due, x.best(false));
        return x;
    }

    private static RowPresolve ended(int how) {
        RowPresolve x = Edges.told();
        x.best(false);
        if (how == 0) {
            x.column(0, 0, 0);
        } else if (how == 1) {
            x.row(0, 0);
        } else if (how == 2) {
            x.term(0, 0, 1);
        } else {
            x.shrink(0, 1);
        }
        return x;
    }

    private static void bestAt() {
        RowPresolve x = Edges.found();
        int[] small = {0, 0, 0, 0};
        int[] whole = {0, 0, 4, 0};
        for (int column = 0; column < 4; column++) {
            Check.is("of the small", small[column], x.bestAt(column));
        }
        x.best(false);
        for (int column = 0; column < 4; column++) {
            Check.is("of the whole", whole[column], x.bestAt(column));
        }
        RowPresolve put = Told.columns(0, 9, -1, 0, 9, -1, 5, 5, 0);
        Told.equal(put, 9, 1, 1);
        put.shrink(Told.rules(6, 9), 1);
        put.best(true);
        Check.is("the first of alike ones", 0, put.bestAt(0));
        Check.is("put in", 0, put.bestAt(1));
        Check.is("fixed", 0, put.bestAt(2));
        put.best(false);
        Check.is("the first of alike ones", 0, put.bestAt(0));
        Check.is("in the whole it has a number", 9, put.bestAt(1));
        Check.is("in the whole it has a number", 5, put.bestAt(2));
        put.best(true);
        Check.is("and none of the small again", 0, put.bestAt(1));
        RowPresolve ends = Told.columns(-10000, -10000, 0, 10000, 10000, 0);
        ends.best(false);
        Check.is("the least", -10000, ends.bestAt(0));
        Check.is("the greatest", 10000, ends.bestAt(1));
    }

    private static void wrongBestAts() {
        noBest(x -> x.bestAt(0));
        noBest(x -> x.bestAt(-1));
        noBest(x -> x.bestAt(12));
        for (int column : new int[] {-1, 4, 12, Integer.MIN_VALUE, Integer.MAX_VALUE}) {
            Edges.refused("bestAt(" + column + ")", Check.INDEX, Edges::found, x -> x.bestAt(column));
        }
        RowPresolve none = new RowPresolve();
        none.best(false);
        Check.raises("no columns", Check.INDEX, () -> none.bestAt(0));
    }
}
