/** The paragraph "Exceptions": each method, at each kind of object, with arguments within and beyond. */
final class ExceptionEdges {
    private static final int[] COEFFICIENTS = {-1001, -1000, 1000, 1001};
    private static final Edges.Use[] ENDING = {
        x -> x.column(0, 0, 0), x -> x.row(0, 0), x -> x.term(0, 0, 1), x -> x.clear(),
    };

    private final String name;
    private final Edges.Make make;
    private final int columns;
    private final int rows;
    private final int acts;
    private final boolean hasSmall;
    private final boolean isImpossible;
    private final boolean isFound;

    private ExceptionEdges(String name, Edges.Make make, int columns, int rows, String what) {
        this.name = name;
        this.make = make;
        this.columns = columns;
        this.rows = rows;
        hasSmall = what.contains("small");
        isImpossible = what.contains("impossible");
        isFound = what.contains("found");
        acts = hasSmall ? make.make().acts() : 0;
    }

    static void run() {
        Edges.says("Exceptions", "a call that throws changes nothing; of several that could be thrown it is the one "
                + "that stands first at the method", ExceptionEdges::allMethods);
        Edges.says("Exceptions", "IndexOutOfBoundsException: there is no such column, row, act, place",
                ExceptionEdges::places);
        Edges.says("Exceptions", "column(), row(), term() and clear(), when they do not throw, end THE SMALL",
                ExceptionEdges::endOfSmall);
        Edges.says("Exceptions", "these, and shrink(), end what was put, what was turned back, and the BEST",
                ExceptionEdges::endOfPoints);
        Edges.says("Promise 7", "IllegalStateException: there is no small (so in all that follow)",
                ExceptionEdges::noSmall);
    }

    private static void allMethods() {
        ExceptionEdges[] objects = {
            new ExceptionEdges("new", RowPresolve::new, 0, 0, ""),
            new ExceptionEdges("told", Edges::told, 4, 3, ""),
            new ExceptionEdges("small", Edges::small, 4, 3, "small"),
            new ExceptionEdges("found", Edges::found, 4, 3, "small found"),
            new ExceptionEdges("impossible", Edges::impossible, 4, 4, "small impossible"),
            new ExceptionEdges("full", Edges::full, 12, 12, "small"),
        };
        for (ExceptionEdges object : objects) {
            object.tellMore();
            object.shrinkIt();
            object.askColumns();
            object.askRows();
            object.askRests();
            object.askActs();
            object.askWithoutPlace();
            object.putNumbers();
            object.turnedAndBest();
        }
    }

    /** The exceptions in the order of the method, each only if its case is so. */
    private void first(String call, Edges.Use use, Object... cases) {
        Class<?> due = null;
        for (int i = cases.length - 2; i >= 0; i -= 2) {
            if ((Boolean) cases[i + 1]) {
                due = (Class<?>) cases[i];
            }
        }
        if (due == null) {
            RowPresolve x = make.make();
            Check.is(call + " at " + name + " raises", "nothing", Check.raised(() -> use.on(x)));
        } else {
            Edges.refused(call + " at " + name, due, make, use);
        }
    }

    private boolean noColumn(int column) {
        return column < 0 || column >= columns;
    }

    private boolean noRow(int row) {
        return row < 0 || row >= rows;
    }

    private static int[] around(int count) {
        return new int[] {-1, 0, count - 1, count, 12, Integer.MIN_VALUE, Integer.MAX_VALUE};
    }

    private void tellMore() {
        for (int high = -1; high <= 0; high++) {
            int top = high;
            first("column(0, " + high + ", 0)", x -> x.column(0, top, 0),
                    Check.STATE, columns == 12, Check.ARGUMENT, high < 0);
        }
        for (int kind = -1; kind <= 2; kind++) {
            int k = kind;
            first("row(" + kind + ", 0)", x -> x.row(k, 0),
                    Check.STATE, rows == 12, Check.ARGUMENT, kind < 0 || kind > 1);
        }
        for (int row : around(rows)) {
            for (int column : around(columns)) {
                for (int a : COEFFICIENTS) {
                    first("term(" + row + ", " + column + ", " + a + ")", x -> x.term(row, column, a),
                            Check.INDEX, noRow(row) || noColumn(column), Check.ARGUMENT, Math.abs(a) > 1000);
                }
            }
        }
        first("clear()", x -> x.clear());
    }

    private void shrinkIt() {
        for (int rules : new int[] {Integer.MIN_VALUE, -1, 0, 2047, 2048, Integer.MAX_VALUE}) {
            for (int rounds : new int[] {Integer.MIN_VALUE, -1, 0, 1, 50, 51, Integer.MAX_VALUE}) {
                boolean wrong = rules < 0 || rules > 2047 || rounds < 1 || rounds > 50;
                first("shrink(" + rules + ", " + rounds + ")", x -> x.shrink(rules, rounds), Check.ARGUMENT, wrong);
            }
        }
    }

    private void askColumns() {
        for (int column : around(columns)) {
            boolean no = noColumn(column);
            first("state(" + column + ")", x -> x.state(column), Check.STATE, !hasSmall, Check.INDEX, no);
            first("bound(" + column + ")", x -> x.bound(column, false), Check.STATE, !hasSmall, Check.INDEX, no);
            first("bound(" + column + ")", x -> x.bound(column, true), Check.STATE, !hasSmall, Check.INDEX, no);
            first("cost(" + column + ")", x -> x.cost(column), Check.STATE, !hasSmall, Check.INDEX, no);
            for (int other : around(columns)) {
                first("same(" + column + ", " + other + ")", x -> x.same(column, other),
                        Check.STATE, !hasSmall, Check.INDEX, no || noColumn(other));
            }
        }
    }

    private void askRows() {
        for (int row : around(rows)) {
            boolean no = noRow(row);
            first("kind(" + row + ")", x -> x.kind(row), Check.STATE, !hasSmall, Check.INDEX, no);
            first("right(" + row + ")", x -> x.right(row), Check.STATE, !hasSmall, Check.INDEX, no);
            first("clique(" + row + ")", x -> x.clique(row), Check.STATE, !hasSmall, Check.INDEX, no);
            for (int column : around(columns)) {
                first("coefficient(" + row + ", " + column + ")", x -> x.coefficient(row, column),
                        Check.STATE, !hasSmall, Check.INDEX, no || noColumn(column));
            }
            int size = hasSmall && !no ? make.make().clique(row) : 0;
            for (int i : around(size)) {
                first("cliqueAt(" + row + ", " + i + ")", x -> x.cliqueAt(row, i),
                        Check.STATE, !hasSmall, Check.INDEX, no || i < 0 || i >= size);
            }
        }
    }

    private void askRests() {
        for (int which : new int[] {Integer.MIN_VALUE, -1, 0, 1, 2, 3, Integer.MAX_VALUE}) {
            for (int k : new int[] {Integer.MIN_VALUE, -1, 0, rows - 1, rows, columns - 1, columns, 12}) {
                first("rest(" + which + ", " + k + ")", x -> x.rest(which, k), Check.STATE, !hasSmall,
                        Check.ARGUMENT, which < 0 || which > 2, Check.INDEX, which == 0 ? noRow(k) : noColumn(k));
            }
        }
    }

    private void askActs() {
        for (int i : new int[] {Integer.MIN_VALUE, -1, 0, acts - 1, acts, 400, Integer.MAX_VALUE}) {
            for (int what : new int[] {Integer.MIN_VALUE, -1, 0, 4, 5, Integer.MAX_VALUE}) {
                first("act(" + i + ", " + what + ")", x -> x.act(i, what), Check.STATE, !hasSmall,
                        Check.INDEX, i < 0 || i >= acts, Check.ARGUMENT, what < 0 || what > 4);
            }
        }
    }

    private void askWithoutPlace() {
        first("offset()", x -> x.offset(), Check.STATE, !hasSmall);
        first("certificate()", x -> x.certificate(), Check.STATE, !hasSmall);
        first("certified()", x -> x.certified(), Check.STATE, !isImpossible);
        first("acts()", x -> x.acts(), Check.STATE, !hasSmall);
        first("parts()", x -> x.parts(), Check.STATE, !hasSmall);
    }

    private void putNumbers() {
        boolean none = !hasSmall || isImpossible;
        for (int column : around(columns)) {
            boolean isThere = !noColumn(column) && hasSmall && make.make().state(column) == 0;
            int low = isThere ? make.make().bound(column, false) : 0;
            int high = isThere ? make.make().bound(column, true) : 0;
            for (int number : new int[] {Integer.MIN_VALUE, low - 1, low, high, high + 1, Integer.MAX_VALUE}) {
                first("put(" + column + ", " + number + ")", x -> x.put(column, number), Check.STATE, none,
                        Check.INDEX, noColumn(column), Check.ARGUMENT, !isThere || number < low || number > high);
            }
        }
        first("back()", x -> x.back(), Check.STATE, !isFound);
    }

    private void turnedAndBest() {
        for (int column : around(columns)) {
            first("at(" + column + ")", x -> x.at(column), Check.STATE, !isFound, Check.INDEX, noColumn(column));
            first("bestAt(" + column + ")", x -> x.bestAt(column),
                    Check.STATE, !isFound, Check.INDEX, noColumn(column));
        }
        first("value()", x -> x.value(), Check.STATE, !isFound);
        first("bestValue()", x -> x.bestValue(), Check.STATE, !isFound);
        first("best(true)", x -> x.best(true), Check.STATE, !hasSmall);
        first("best(false)", x -> x.best(false));
    }

    /** As many columns as rows there are not: what counts is the kind of place. */
    private static void places() {
        RowPresolve rows = Told.alike(1, 0, 1);
        for (int i = 0; i < 12; i++) {
            rows.row(0, 0);
        }
        rows.shrink(0, 1);
        Check.is("kind(11)", 0, rows.kind(11));
        Check.is("rest(0, 11)", 2048, rows.rest(0, 11));
        Check.raises("state(1)", Check.INDEX, () -> rows.state(1));
        Check.raises("rest(1, 1)", Check.INDEX, () -> rows.rest(1, 1));
        Check.raises("coefficient(0, 1)", Check.INDEX, () -> rows.coefficient(0, 1));
        Check.raises("term(0, 1, 1)", Check.INDEX, () -> rows.term(0, 1, 1));
        RowPresolve columns = Told.alike(12, 0, 1);
        columns.row(0, 0);
        columns.shrink(0, 1);
        Check.is("state(11)", 0, columns.state(11));
        Check.is("rest(2, 11)", 0, columns.rest(2, 11));
        Check.raises("kind(1)", Check.INDEX, () -> columns.kind(1));
        Check.raises("rest(0, 1)", Check.INDEX, () -> columns.rest(0, 1));
        Check.raises("clique(1)", Check.INDEX, () -> columns.clique(1));
        Check.raises("coefficient(1, 0)", Check.INDEX, () -> columns.coefficient(1, 0));
        Check.raises("term(1, 0, 1)", Check.INDEX, () -> columns.term(1, 0, 1));
    }

    private static void endOfSmall() {
        Edges.Make[] objects = {Edges::small, Edges::found, Edges::impossible};
        for (Edges.Make make : objects) {
            for (Edges.Use ending : ENDING) {
                RowPresolve x = make.make();
                ending.on(x);
                Check.raises("acts()", Check.STATE, x::acts);
                Check.raises("best(true)", Check.STATE, () -> x.best(true));
                Check.raises("put(0, 0)", Check.STATE, () -> x.put(0, 0));
            }
        }
        Edges.Use[] leaving = {
            x -> x.column(1, 0, 0), x -> x.row(2, 0), x -> x.term(9, 0, 1), x -> x.term(0, 0, 1001),
        };
        for (Edges.Use call : leaving) {
            RowPresolve x = Edges.small();
            Check.no("the call is refused", Check.raised(() -> call.on(x)).equals("nothing"));
            Check.is("acts()", Edges.small().acts(), x.acts());
        }
    }

    private static void endOfPoints() {
        for (int i = 0; i <= ENDING.length; i++) {
            RowPresolve x = Edges.found();
            Check.is("bestValue() before", Edges.found().bestValue(), x.bestValue());
            if (i < ENDING.length) {
                ENDING[i].on(x);
            } else {
                x.shrink(Told.rules(6, 9), 50);
            }
            Check.raises("bestValue()", Check.STATE, x::bestValue);
            Check.raises("bestAt(0)", Check.STATE, () -> x.bestAt(0));
            Check.raises("value()", Check.STATE, x::value);
            Check.raises("at(0)", Check.STATE, () -> x.at(0));
            Check.raises("back()", Check.STATE, x::back);
            if (i != 3) {
                x.shrink(0, 1);
                Check.raises("nothing is put then", Check.STATE, x::back);
            }
        }
        RowPresolve whole = Edges.told();
        whole.best(false);
        whole.shrink(0, 1);
        Check.raises("the best of the whole is ended too", Check.STATE, whole::bestValue);
    }

    private static void noSmall() {
        for (Edges.Use call : afterSmall()) {
            Edges.refused("never made", Check.STATE, Edges::told, call);
            for (Edges.Use ending : ENDING) {
                Edges.refused("ended", Check.STATE, () -> ended(Edges.found(), ending), call);
                Edges.refused("ended when impossible", Check.STATE, () -> ended(Edges.impossible(), ending), call);
            }
        }
    }

    private static RowPresolve ended(RowPresolve x, Edges.Use ending) {
        ending.on(x);
        return x;
    }

    private static Edges.Use[] afterSmall() {
        return new Edges.Use[] {
            x -> x.state(0), x -> x.bound(0, true), x -> x.cost(0), x -> x.kind(0), x -> x.right(0),
            x -> x.coefficient(0, 0), x -> x.offset(), x -> x.rest(0, 0), x -> x.certificate(), x -> x.certified(),
            x -> x.acts(), x -> x.act(0, 0), x -> x.parts(), x -> x.clique(0), x -> x.cliqueAt(0, 0),
            x -> x.same(0, 0), x -> x.put(0, 0), x -> x.back(), x -> x.at(0), x -> x.value(), x -> x.best(true),
            x -> x.bestValue(), x -> x.bestAt(0),
        };
    }
}
