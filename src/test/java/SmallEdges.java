/** Promises 7 to 18: what is told of the small, of what it rests on, and of its acts. */
final class SmallEdges {
    private SmallEdges() {
    }

    static void run() {
        columnsAndRows();
        rests();
        acts();
    }

    private static void columnsAndRows() {
        Edges.says("Promise 7", "Of a column of the small: 0 THERE, 1 FIXED, 2 PUT IN.", SmallEdges::states);
        Edges.says("Promise 7", "(so in all that follow); IndexOutOfBoundsException.",
                () -> placesOfColumns((x, column) -> x.state(column)));
        Edges.says("Promise 8", "A bound of a column of the small (when it is not THERE: as it was at last).",
                SmallEdges::bounds);
        Edges.says("Promise 8", "As state().", () -> placesOfColumns((x, column) -> x.bound(column, true)));
        Edges.says("Promise 9", "The COST of a column of the small; 0 when it is not THERE.", SmallEdges::costs);
        Edges.says("Promise 9", "As state().", () -> placesOfColumns((x, column) -> x.cost(column)));
        Edges.says("Promise 10", "The KIND of a row of the small; NONE: it is GONE.", SmallEdges::kinds);
        Edges.says("Promise 10", "As state().", () -> placesOfRows((x, row) -> x.kind(row)));
        Edges.says("Promise 11", "The RIGHT of a row of the small (when it is GONE: as it was at last).",
                SmallEdges::rights);
        Edges.says("Promise 11", "As state().", () -> placesOfRows((x, row) -> x.right(row)));
        Edges.says("Promise 12", "A coefficient of the small; 0 when the row is GONE, or the column not THERE.",
                SmallEdges::coefficients);
        Edges.says("Promise 12", "As state().", SmallEdges::placesOfCoefficients);
        Edges.says("Promise 13", "OFFSET.", SmallEdges::offsets);
        Edges.says("Promise 13", "IllegalStateException.",
                () -> Edges.refused("offset()", Check.STATE, Edges::told, x -> x.offset()));
    }

    private static void rests() {
        Edges.says("Promise 14", "The REST of a row (which = 0; when it is GONE: as it was at last), of a column's LOW "
                + "(1), HIGH (2): row k of the whole is 2 to the k.", SmallEdges::restsOfAll);
        Edges.says("Promise 14", "IllegalStateException; IllegalArgumentException: another which; "
                + "IndexOutOfBoundsException.", SmallEdges::wrongRests);
        Edges.says("Promise 15", "What IMPOSSIBLE rests on, as rest(); NONE when it is not.",
                SmallEdges::certificates);
        Edges.says("Promise 15", "IllegalStateException.",
                () -> Edges.refused("certificate()", Check.STATE, Edges::told, x -> x.certificate()));
        Edges.says("Promise 16", "Whether no POINT of the whole makes all rows of the certificate HOLD",
                SmallEdges::certified);
        Edges.says("Promise 16", "NONE: the whole has more than 4000 POINTS", SmallEdges::certifiedOfMany);
        Edges.says("Promise 16", "IllegalStateException: also when it is not IMPOSSIBLE",
                SmallEdges::notImpossible);
    }

    private static void acts() {
        Edges.says("Promise 17", "How many ACTS there were.", SmallEdges::howManyActs);
        Edges.says("Promise 17", "IllegalStateException.",
                () -> Edges.refused("acts()", Check.STATE, Edges::told, x -> x.acts()));
        Edges.says("Promise 18", "Of ACT i (the first 400 are kept)", SmallEdges::keptActs);
        Edges.says("Promise 18", "0 its rule, 1 the row (NONE of rules 6 and 8), 2 the column (NONE of GONE and ANEW)",
                SmallEdges::rowsAndColumnsOfActs);
        Edges.says("Promise 18", "3 what: 0 a row is GONE, 1 a LOW is narrowed, 2 a HIGH, 3 a row is made ANEW, 4 "
                + "FIXED, 5 PUT IN", SmallEdges::whatsOfActs);
        Edges.says("Promise 18", "4: the new bound, the number at which it is FIXED, of 5 s R, of GONE and ANEW the "
                + "row's RIGHT (as it is then)", SmallEdges::numbersOfActs);
        Edges.says("Promise 18", "IllegalStateException; IndexOutOfBoundsException: none such is kept; "
                + "IllegalArgumentException: another what.", SmallEdges::wrongActs);
    }

    private interface Ask {
        void ask(RowPresolve x, int place);
    }

    private static void placesOfColumns(Ask ask) {
        for (int column : new int[] {-1, 4, 12, Integer.MIN_VALUE, Integer.MAX_VALUE}) {
            Edges.refused("column " + column, Check.INDEX, Edges::found, x -> ask.ask(x, column));
            Edges.refused("no small, column " + column, Check.STATE, Edges::told, x -> ask.ask(x, column));
        }
        for (int column = 0; column < 4; column++) {
            int place = column;
            Check.is("column " + column, "nothing", Check.raised(() -> ask.ask(Edges.found(), place)));
            Check.is("column " + column, "nothing", Check.raised(() -> ask.ask(Edges.impossible(), place)));
        }
        Edges.refused("no column", Check.INDEX, SmallEdges::smallOfNothing, x -> ask.ask(x, 0));
    }

    private static void placesOfRows(Ask ask) {
        for (int row : new int[] {-1, 3, 12, Integer.MIN_VALUE, Integer.MAX_VALUE}) {
            Edges.refused("row " + row, Check.INDEX, Edges::found, x -> ask.ask(x, row));
            Edges.refused("no small, row " + row, Check.STATE, Edges::told, x -> ask.ask(x, row));
        }
        for (int row = 0; row < 3; row++) {
            int place = row;
            Check.is("row " + row, "nothing", Check.raised(() -> ask.ask(Edges.found(), place)));
            Check.is("row " + row, "nothing", Check.raised(() -> ask.ask(Edges.impossible(), place)));
        }
        Edges.refused("no row", Check.INDEX, SmallEdges::smallOfNothing, x -> ask.ask(x, 0));
    }

    private static RowPresolve smallOfNothing() {
        RowPresolve x = new RowPresolve();
        x.shrink(2047, 50);
        return x;
    }

    private static void states() {
        RowPresolve x = Edges.small();
        int[] due = {0, 0, 1, 2};
        for (int column = 0; column < 4; column++) {
            Check.is("state(" + column + ")", due[column], x.state(column));
        }
        RowPresolve full = Told.alike(12, 1, 1);
        full.shrink(Told.rules(6), 1);
        for (int column = 0; column < 12; column++) {
            Check.is("all are fixed", 1, full.state(column));
        }
    }

    private static void bounds() {
        RowPresolve x = Told.columns(-10000, 10000, 0, 0, 9, 0, -20, 20, 0, 5, 5, 0);
        Told.atMost(x, 4, 0, 1);
        Told.atMost(x, -4, 0, -1);
        Told.atMost(x, 7, 0, 0, 1);
        Told.atMost(x, 6, 0, 0, -1);
        Told.equal(x, 0, 1, 0, -1);
        x.shrink(Told.rules(3, 6, 9), 50);
        Check.columnIs(x, 0, 0, -6, 7, 0);
        Check.columnIs(x, 1, 1, 4, 4, 0);
        Check.columnIs(x, 2, 2, -6, 7, 0);
        Check.columnIs(x, 3, 1, 5, 5, 0);
        RowPresolve wide = Told.alike(1, -10000, 10000);
        wide.shrink(0, 1);
        Check.is("low", -10000, wide.bound(0, false));
        Check.is("high", 10000, wide.bound(0, true));
        Check.is("when it is impossible", 1, Edges.impossible().bound(0, true));
    }

    private static void costs() {
        RowPresolve x = Edges.small();
        int[] due = {2, 0, 0, 0};
        for (int column = 0; column < 4; column++) {
            Check.is("cost(" + column + ")", due[column], x.cost(column));
        }
        for (int sign = -1; sign <= 1; sign += 2) {
            RowPresolve most = Told.columns(-9, 9, 0, -10000, 10000, 1000);
            Told.equal(most, 0, sign * 1000, 1);
            most.shrink(Told.rules(9), 1);
            Check.is("the greatest amount", -sign * 1000000, most.cost(0));
            Check.is("of the one that is put in", 0, most.cost(1));
        }
    }

    private static void kinds() {
        RowPresolve x = Told.alike(2, 0, 9);
        Told.atMost(x, 5, 1, 1);
        Told.equal(x, 5, 1, 2);
        Told.atMost(x, 0);
        Told.equal(x, 0);
        Told.atMost(x, -5, -1, -1);
        x.shrink(Told.rules(1), 1);
        int[] due = {0, 1, -1, -1, 0};
        for (int row = 0; row < 5; row++) {
            Check.is("kind(" + row + ")", due[row], x.kind(row));
        }
        x.shrink(Told.rules(7), 1);
        Check.is("of two one of kind 1", 1, x.kind(0));
        Check.is("NONE", RowPresolve.NONE, x.kind(4));
    }

    private static void rights() {
        RowPresolve x = ColumnRuleEdges.farNumbers();
        x.shrink(Told.rules(6, 9), 1);
        long[] due = {10000000L, 10000000000L, 10000000005L, -9999999995L};
        for (int row = 0; row < 4; row++) {
            Check.is("right(" + row + ")", due[row], x.right(row));
        }
        RowPresolve gone = Told.columns(3, 3, 0, 0, 9, 0);
        Told.atMost(gone, 100, 1, 1);
        Told.atMost(gone, 10, 1, 1);
        gone.shrink(Told.rules(4, 6), 50);
        Check.is("gone before the column was fixed", 100, gone.right(0));
        Check.is("there when it was", 7, gone.right(1));
    }

    private static void coefficients() {
        RowPresolve x = Edges.small();
        int[][] due = {{1, 1, 0, 0}, {2, 1, 0, 0}, {0, 0, 0, 0}};
        for (int row = 0; row < 3; row++) {
            for (int column = 0; column < 4; column++) {
                Check.is("coefficient " + row + ", " + column, due[row][column], x.coefficient(row, column));
            }
        }
        for (int sign = -1; sign <= 1; sign += 2) {
            RowPresolve most = Told.alike(2, -9, 9);
            Told.equal(most, 0, sign * 1000, 1);
            Told.atMost(most, 0, 0, 1000);
            most.shrink(Told.rules(9), 1);
            Check.is("the greatest amount", -sign * 1000000, most.coefficient(1, 0));
        }
        RowPresolve gone = Told.alike(1, 0, 9);
        Told.atMost(gone, 9, 1);
        gone.shrink(Told.rules(4), 1);
        Check.is("of a row that is gone", 0, gone.coefficient(0, 0));
    }

    private static void placesOfCoefficients() {
        placesOfRows((x, row) -> x.coefficient(row, 0));
        placesOfColumns((x, column) -> x.coefficient(0, column));
        placesOfColumns((x, column) -> x.coefficient(2, column));
        Edges.refused("both", Check.INDEX, Edges::found, x -> x.coefficient(3, 4));
    }

    private static void offsets() {
        RowPresolve none = Told.columns(5, 5, 7);
        none.shrink(0, 1);
        Check.is("nothing is fixed", 0, none.offset());
        none.shrink(Told.rules(6), 1);
        Check.is("fixed", 35, none.offset());
        none.shrink(0, 1);
        Check.is("made anew", 0, none.offset());
        RowPresolve far = ColumnRuleEdges.farNumbers();
        far.shrink(Told.rules(6, 9), 1);
        Check.is("beyond an int", 10000000000L, far.offset());
        RowPresolve minus = Told.columns(-10000, 10000, 0, -10000, 10000, 1000, 10000, 10000, 0);
        Told.equal(minus, 0, 1000, -1, -1000);
        minus.shrink(Told.rules(6, 9), 1);
        Check.is("below an int", -10000000000L, minus.offset());
    }

    private static void restsOfAll() {
        for (int row = 0; row < 12; row++) {
            RowPresolve x = Told.alike(2, 0, 9);
            for (int i = 0; i < 12; i++) {
                Told.atMost(x, i == row ? 4 : 99, 1);
            }
            x.shrink(Told.rules(3), 1);
            Check.rests(x, 0, 0, 1 << row);
            Check.rests(x, 1, 0, 0);
            Check.is("of a row that is gone", 1 << row, x.rest(0, row));
        }
        RowPresolve all = Told.alike(12, 0, 9);
        for (int i = 0; i < 11; i++) {
            all.row(1, 3);
            all.term(i, i, 1);
        }
        Told.atMost(all, 99, 1, 1, 1, 1, 1, 1, 1, 1, 1, 1, 1, 1);
        all.shrink(Told.rules(3, 6), 1);
        Check.is("all twelve", 4095, all.rest(0, 11));
        Check.is("right", 66, all.right(11));
    }

    private static void wrongRests() {
        for (int which : new int[] {-1, 3, Integer.MIN_VALUE, Integer.MAX_VALUE}) {
            for (int k : new int[] {-1, 0, 4}) {
                Edges.refused("rest(" + which + ", " + k + ")", Check.ARGUMENT, Edges::found, x -> x.rest(which, k));
                Edges.refused("no small", Check.STATE, Edges::told, x -> x.rest(which, k));
            }
        }
        placesOfRows((x, row) -> x.rest(0, row));
        placesOfColumns((x, column) -> x.rest(1, column));
        placesOfColumns((x, column) -> x.rest(2, column));
        Check.is("column 3 has no row 3 beside it", 0, Edges.found().rest(1, 3));
    }

    private static void certificates() {
        Check.is("not impossible", -1, Edges.found().certificate());
        Check.is("of nothing", -1, smallOfNothing().certificate());
        for (int row = 0; row < 12; row++) {
            RowPresolve x = Told.alike(1, 0, 9);
            for (int i = 0; i < 12; i++) {
                Told.equal(x, i == row ? 1 : 0, i == row ? 2 : 0);
            }
            Check.impossible(x, Told.rules(2), 1 << row);
        }
        RowPresolve all = Told.alike(11, 0, 1);
        for (int i = 0; i < 11; i++) {
            all.row(0, -1);
            all.term(i, i, -1);
        }
        Told.atMost(all, 10, 1, 1, 1, 1, 1, 1, 1, 1, 1, 1, 1);
        Check.impossible(all, Told.rules(3, 4), 4095);
        all.shrink(0, 1);
        Check.is("made anew", -1, all.certificate());
    }

    /** An answer 0 can't come about: what the rules rest on is always enough. */
    private static void certified() {
        RowPresolve none = new RowPresolve();
        none.row(0, -1);
        none.shrink(1, 1);
        Check.is("the one point without columns", 1, none.certified());
        RowPresolve one = Told.alike(1, 3, 3);
        Told.equal(one, 2, 1);
        Told.equal(one, 3, 1);
        one.shrink(Told.rules(3), 1);
        Check.is("certificate", 1, one.certificate());
        Check.is("one point", 1, one.certified());
        Check.is("asked again", 1, one.certified());
        one.best(false);
        Check.is("and behind best", 1, one.certified());
    }

    private static RowPresolve impossibleOf(int... counts) {
        RowPresolve x = new RowPresolve();
        for (int count : counts) {
            x.column(-10000, -10000 + count - 1, 0);
        }
        x.row(0, -1);
        x.shrink(1, 1);
        return x;
    }

    private static void certifiedOfMany() {
        Check.is("3999", 1, impossibleOf(3999).certified());
        Check.is("4000", 1, impossibleOf(4000).certified());
        Check.is("4001", -1, impossibleOf(4001).certified());
        Check.is("63 times 63", 1, impossibleOf(63, 63).certified());
        Check.is("40 times 100", 1, impossibleOf(40, 100).certified());
        Check.is("2 times 2001", -1, impossibleOf(2, 2001).certified());
        Check.is("2 to the 11", 1, impossibleOf(2, 2, 2, 2, 2, 2, 2, 2, 2, 2, 2, 1).certified());
        Check.is("2 to the 12", -1, impossibleOf(2, 2, 2, 2, 2, 2, 2, 2, 2, 2, 2, 2).certified());
        Check.is("2 to the 33", -1, impossibleOf(2048, 2048, 2048).certified());
        Check.is("2 to the 65", -1, impossibleOf(8192, 8192, 8192, 8192, 8192).certified());
        Check.is("2 to the 66", -1, impossibleOf(2048, 2048, 2048, 2048, 2048, 2048, 1).certified());
        Check.is("20001 to the 12", -1, impossibleOf(20001, 20001, 20001, 20001, 20001, 20001, 20001, 20001, 20001,
                20001, 20001, 20001).certified());
        RowPresolve whole = Told.alike(1, 0, 4000);
        Told.atMost(whole, 5, 1);
        Told.atMost(whole, -6, -1);
        Check.is("shrink", 0, whole.shrink(Told.rules(3), 1));
        Check.is("the whole counts, not the small", -1, whole.certified());
    }

    private static void notImpossible() {
        Edges.refused("possible", Check.STATE, Edges::found, x -> x.certified());
        Edges.refused("no small", Check.STATE, Edges::told, x -> x.certified());
        Edges.refused("of nothing", Check.STATE, SmallEdges::smallOfNothing, x -> x.certified());
        RowPresolve again = Edges.impossible();
        Check.is("impossible", 1, again.certified());
        again.shrink(0, 1);
        Check.raises("made anew", Check.STATE, again::certified);
    }

    /** So many acts: eight in each round, and so many more of rows without terms in the first one. */
    private static RowPresolve manyActs(int rounds, int more) {
        RowPresolve x = Told.alike(4, 0, 10000);
        for (int pair = 0; pair < 4; pair += 2) {
            for (int turn = 0; turn < 2; turn++) {
                int row = x.row(0, -1);
                x.term(row, pair + turn, 1);
                x.term(row, pair + 1 - turn, -1);
            }
        }
        for (int i = 0; i < more; i++) {
            x.row(0, i);
        }
        x.shrink(Told.rules(1, 5), rounds);
        return x;
    }

    private static void howManyActs() {
        Check.is("none", 0, smallOfNothing().acts());
        RowPresolve one = new RowPresolve();
        one.row(0, 0);
        one.shrink(1, 50);
        Check.is("one", 1, one.acts());
        Check.is("399", 399, manyActs(49, 7).acts());
        Check.is("400", 400, manyActs(50, 0).acts());
        Check.is("401", 401, manyActs(50, 1).acts());
        Check.is("impossible at once", 0, Edges.impossible().acts());
        RowPresolve most = Told.alike(12, 0, 10000);
        for (int i = 0; i < 12; i++) {
            most.row(0, -1);
            most.term(i, i, 1);
            most.term(i, (i + 1) % 12, -1);
        }
        most.shrink(Told.rules(5), 50);
        Check.is("1200", 1200, most.acts());
        most.shrink(Told.rules(5), 1);
        Check.is("made anew", 24, most.acts());
    }

    private static void keptActs() {
        RowPresolve few = manyActs(49, 7);
        Check.is("act 398", 5, few.act(398, 0));
        Edges.refused("act 399 of 399", Check.INDEX, () -> manyActs(49, 7), x -> x.act(399, 0));
        RowPresolve just = manyActs(50, 0);
        Check.is("act 399", 5, just.act(399, 0));
        Edges.refused("act 400 of 400", Check.INDEX, () -> manyActs(50, 0), x -> x.act(400, 0));
        RowPresolve more = manyActs(50, 5);
        Check.is("405 acts", 405, more.acts());
        Check.is("the first of them", 1, more.act(0, 0));
        for (int i : new int[] {400, 401, 404, 405}) {
            Edges.refused("act " + i + " of 405", Check.INDEX, () -> manyActs(50, 5), x -> x.act(i, 0));
        }
        for (int what = 0; what < 5; what++) {
            long due = just.act(394, what);
            Check.is("number " + what + " of the last one kept", due, more.act(399, what));
        }
        Edges.refused("none", Check.INDEX, SmallEdges::smallOfNothing, x -> x.act(0, 0));
        more.shrink(0, 1);
        Check.raises("of a small before", Check.INDEX, () -> more.act(0, 0));
    }

    private static void rowsAndColumnsOfActs() {
        RowPresolve x = Told.columns(0, 9, 0, 5, 5, 0, 0, 9, 1, -99, 99, 0, -9, 9, 0, 0, 1, 0);
        Told.atMost(x, 0);
        Told.atMost(x, 3, 2);
        Told.equal(x, 0, 0, 0, 0, 1, 3, 1);
        Told.atMost(x, 6, 0, 0, 0, 0, 0, 8);
        x.shrink(2047 - Told.rules(4, 5), 1);
        Check.acts(x, "1 0 -1 0 0; 2 1 -1 3 1; 2 3 -1 3 0; 3 1 0 2 1; 3 1 -1 0 1; 3 3 5 2 0; 3 3 -1 0 0; "
                + "6 -1 1 4 5; 6 -1 5 4 0; 8 -1 0 2 0; 8 -1 2 2 0; 9 2 3 5 0");
    }

    private static void whatsOfActs() {
        Check.actsOf(Told.columns(5, 5, 0), Told.rules(6), "6 -1 0 4 5");
        RowPresolve x = Told.alike(2, -9, 9);
        Told.equal(x, 4, -2, 2);
        Told.atMost(x, 8, 0, 1);
        Told.atMost(x, 8, 0, -1);
        x.shrink(Told.rules(2, 3, 9), 1);
        Check.acts(x, "2 0 -1 3 -2; 3 1 1 2 8; 3 1 -1 0 8; 3 2 1 1 -8; 3 2 -1 0 8; 9 0 0 2 6; 9 0 1 5 2");
    }

    private static void numbersOfActs() {
        RowPresolve x = Told.columns(-10000, 10000, 0);
        Told.equal(x, -10000, 1);
        x.shrink(Told.rules(3, 6), 1);
        Check.acts(x, "3 0 0 2 -10000; 3 0 -1 0 -10000; 6 -1 0 4 -10000");
        RowPresolve then = Told.columns(3, 3, 0, 0, 9, 0);
        Told.atMost(then, 8, 2, 4);
        then.shrink(Told.rules(2, 6), 50);
        Check.acts(then, "2 0 -1 3 4; 6 -1 0 4 3; 2 0 -1 3 0");
        RowPresolve far = ColumnRuleEdges.farNumbers();
        far.shrink(Told.rules(6, 9), 1);
        Check.is("s R beyond an int", 10000000000L, far.act(4, 4));
        far.shrink(Told.rules(4, 6, 9), 2);
        Check.is("a right beyond an int", 10000000005L, far.act(5, 4));
    }

    private static void wrongActs() {
        int last = Edges.found().acts() - 1;
        for (int what : new int[] {-1, 5, Integer.MIN_VALUE, Integer.MAX_VALUE}) {
            Edges.refused("what " + what, Check.ARGUMENT, Edges::found, x -> x.act(0, what));
            Edges.refused("what " + what, Check.ARGUMENT, Edges::found, x -> x.act(last, what));
            Edges.refused("what " + what + " of none", Check.INDEX, Edges::found, x -> x.act(last + 1, what));
            Edges.refused("what " + what + " of none", Check.INDEX, Edges::found, x -> x.act(-1, what));
            Edges.refused("no small", Check.STATE, Edges::told, x -> x.act(0, what));
        }
        for (int i : new int[] {-1, last + 1, 400, Integer.MIN_VALUE, Integer.MAX_VALUE}) {
            Edges.refused("act " + i, Check.INDEX, Edges::found, x -> x.act(i, 0));
            Edges.refused("no small", Check.STATE, Edges::told, x -> x.act(i, 0));
        }
    }
}
