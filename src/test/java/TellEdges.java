/** Promises 1 to 6 and term 1: the whole as it is told, and the small made of it. */
final class TellEdges {
    private TellEdges() {
    }

    static void run() {
        wholeAtAll();
        promises();
        shrinking();
    }

    private static void wholeAtAll() {
        Edges.says("What it is", "An object is used for at most 512 calls after it has been made",
                TellEdges::manyCalls);
        Edges.says("Term 1", "THE WHOLE has at most 12 COLUMNS and 12 ROWS, numbered from 0 on as they are told",
                TellEdges::numbers);
        Edges.says("Term 1", "A COLUMN has LOW and HIGH (-10000 .. 10000, LOW at most HIGH)", TellEdges::bounds);
        Edges.says("Term 1", "and a COST (-1000 .. 1000)", TellEdges::costs);
        Edges.says("Term 1", "A ROW has a KIND, a RIGHT (-1000000 .. 1000000)", TellEdges::rights);
        Edges.says("Term 1", "for each column a coefficient (-1000 .. 1000; 0 at first)", TellEdges::coefficients);
        Edges.says("Term 1", "those that are not 0 are its TERMS, in the order of the columns", TellEdges::termOrder);
        Edges.says("Term 1", "it HOLDS when the SUM is at most RIGHT (KIND 0), or is RIGHT (KIND 1)",
                TellEdges::holding);
        Edges.says("Term 1", "A POINT is a whole number for each column, from its LOW to its HIGH",
                TellEdges::pointsAtBounds);
        Edges.says("Term 1", "it FITS when all rows HOLD", TellEdges::allRowsHold);
        Edges.says("Term 1", "its VALUE is the sum of the numbers times the COSTS", TellEdges::greatValues);
    }

    private static void promises() {
        Edges.says("Promise 1", "No columns, no rows, no small.", TellEdges::newObject);
        Edges.says("Promise 2", "One more column: its number.", TellEdges::columnNumbers);
        Edges.says("Promise 2", "IllegalStateException: there are 12", TellEdges::columnsAreFull);
        Edges.says("Promise 2", "IllegalArgumentException: a number is not as told", TellEdges::wrongColumns);
        Edges.says("Promise 3", "One more row: its number.", TellEdges::rowNumbers);
        Edges.says("Promise 3", "IllegalStateException: there are 12", TellEdges::rowsAreFull);
        Edges.says("Promise 3", "IllegalArgumentException: kind is not 0, 1, or right not as told",
                TellEdges::wrongRows);
        Edges.says("Promise 4", "The coefficient of a column in a row of the whole.", TellEdges::termsAtCorners);
        Edges.says("Promise 4", "IndexOutOfBoundsException; IllegalArgumentException: it is not -1000 .. 1000.",
                TellEdges::wrongTerms);
        Edges.says("Promise 5", "There are no columns and rows then: how many columns there were.",
                TellEdges::clearing);
    }

    private static void shrinking() {
        Edges.says("Promise 6", "THE SMALL is made anew from the whole", TellEdges::madeAnew);
        Edges.says("Promise 6", "by the RULES whose bits are 1 (rule k is 2 to the k - 1)", TellEdges::bitsOfRules);
        Edges.says("Promise 6", "in so many ROUNDS at most: how many were done", TellEdges::roundsAtMost);
        Edges.says("Promise 6", "0 when it is IMPOSSIBLE", TellEdges::zeroWhenImpossible);
        Edges.says("Promise 6", "IllegalArgumentException: rules are not 0 .. 2047, or rounds not 1 .. 50",
                TellEdges::wrongShrinks);
    }

    /** 12 columns, 12 rows and 144 terms are told in 168 calls; the calls behind that are asked again to the 512th. */
    private static void manyCalls() {
        RowPresolve x = Told.alike(12, -10000, 10000);
        for (int row = 0; row < 12; row++) {
            Check.is("row", row, x.row(row % 2, 1000000));
            for (int column = 0; column < 12; column++) {
                x.term(row, column, row * 12 + column + 1);
            }
        }
        x.shrink(0, 1);
        for (int call = 170; call <= 512; call++) {
            int row = call % 12;
            int column = call / 12 % 12;
            Check.is("call " + call, row * 12 + column + 1, x.coefficient(row, column));
        }
        RowPresolve y = Told.alike(1, 0, 3);
        for (int call = 2; call < 512; call++) {
            Check.is("call " + call, 1, y.shrink(2047 - Told.rules(6, 8), 50));
        }
        Check.is("call 512", 3, y.bound(0, true));
    }

    private static void numbers() {
        RowPresolve x = new RowPresolve();
        for (int i = 0; i < 12; i++) {
            Check.is("column", i, x.column(i, i + 1, i));
            Check.is("row", i, x.row(0, i));
        }
        x.shrink(0, 1);
        for (int i = 0; i < 12; i++) {
            Check.columnIs(x, i, 0, i, i + 1, i);
            Check.rowIs(x, i, 0, i);
        }
        Edges.refused("column 12", Check.STATE, Edges::full, y -> y.column(0, 0, 0));
        Edges.refused("row 12", Check.STATE, Edges::full, y -> y.row(0, 0));
        Edges.refused("state(12)", Check.INDEX, Edges::full, y -> y.state(12));
        Edges.refused("kind(12)", Check.INDEX, Edges::full, y -> y.kind(12));
    }

    private static void bounds() {
        int[][] within = {{-10000, 10000}, {-10000, -10000}, {10000, 10000}, {0, 0}, {-1, 0}, {9999, 10000}};
        for (int[] w : within) {
            RowPresolve x = Told.columns(w[0], w[1], 0);
            x.shrink(0, 1);
            Check.columnIs(x, 0, 0, w[0], w[1], 0);
        }
        int[][] beyond = {{-10001, 0}, {-10001, -10001}, {0, 10001}, {10001, 10001}, {1, 0}, {-9999, -10000},
            {10000, -10000}, {10000, 9999}};
        for (int[] b : beyond) {
            Edges.refused("column(" + b[0] + ", " + b[1] + ", 0)", Check.ARGUMENT, Edges::found,
                    x -> x.column(b[0], b[1], 0));
        }
    }

    private static void costs() {
        for (int cost : new int[] {-1000, -999, 0, 999, 1000}) {
            RowPresolve x = Told.columns(0, 1, cost);
            x.shrink(0, 1);
            Check.is("cost", cost, x.cost(0));
        }
        for (int cost : new int[] {-1001, 1001, Integer.MIN_VALUE, Integer.MAX_VALUE}) {
            Edges.refused("cost " + cost, Check.ARGUMENT, Edges::found, x -> x.column(0, 1, cost));
        }
    }

    private static void rights() {
        for (int right : new int[] {-1000000, -999999, 0, 999999, 1000000}) {
            for (int kind = 0; kind <= 1; kind++) {
                RowPresolve x = new RowPresolve();
                x.row(kind, right);
                x.shrink(0, 1);
                Check.rowIs(x, 0, kind, right);
            }
        }
        for (int right : new int[] {-1000001, 1000001, Integer.MIN_VALUE, Integer.MAX_VALUE}) {
            Edges.refused("right " + right, Check.ARGUMENT, Edges::found, x -> x.row(0, right));
            Edges.refused("right " + right, Check.ARGUMENT, Edges::found, x -> x.row(1, right));
        }
    }

    private static void coefficients() {
        RowPresolve x = Told.alike(1, 0, 1);
        x.row(0, 5);
        x.column(0, 1, 0);
        x.row(1, 5);
        x.shrink(0, 1);
        Check.rowIs(x, 0, 0, 5, 0, 0);
        Check.rowIs(x, 1, 1, 5, 0, 0);
        for (int a : new int[] {-1000, -999, 999, 1000, 0}) {
            x.term(0, 1, a);
            x.shrink(0, 1);
            Check.rowIs(x, 0, 0, 5, 0, a);
        }
        RowPresolve again = Edges.full();
        again.clear();
        for (int i = 0; i < 12; i++) {
            again.column(0, 1, 0);
            again.row(0, 0);
        }
        again.shrink(0, 1);
        for (int row = 0; row < 12; row++) {
            Check.rowIs(again, row, 0, 0, new int[12]);
        }
    }

    /** By TIGHT: one act for each term, whatever the order was in which they were told. */
    private static void termOrder() {
        RowPresolve x = Told.alike(12, 0, 9);
        x.row(0, 5);
        for (int column = 11; column >= 0; column--) {
            x.term(0, column, 1);
        }
        x.shrink(Told.rules(5), 1);
        Check.is("acts", 12, x.acts());
        for (int i = 0; i < 12; i++) {
            Check.is("column of act " + i, i, x.act(i, 2));
        }
        x.term(0, 0, 0);
        x.term(0, 6, 0);
        x.term(0, 11, 0);
        x.shrink(Told.rules(5), 1);
        Check.is("acts without three terms", 9, x.acts());
        Check.is("the first of them", 1, x.act(0, 2));
        Check.is("the last of them", 10, x.act(8, 2));
    }

    /** 2 times the first less 3 times the second is 6, 7 or 8. */
    private static void holding() {
        int[][] points = {{3, 0, 6}, {2, -1, 7}, {4, 0, 8}};
        for (int[] p : points) {
            for (int kind = 0; kind <= 1; kind++) {
                int due = p[2] == 7 || (kind == 0 && p[2] == 6) ? 1 : 0;
                RowPresolve x = Told.columns(p[0], p[0], 0, p[1], p[1], 0);
                Told.row(x, kind, 7, 2, -3);
                x.shrink(0, 1);
                x.put(0, p[0]);
                x.put(1, p[1]);
                Check.is("back, kind " + kind + ", sum " + p[2], due, x.back());
                Check.is("best, kind " + kind + ", sum " + p[2], due, x.best(false));
                Check.is("best of the small, kind " + kind + ", sum " + p[2], due, x.best(true));
            }
        }
    }

    private static void pointsAtBounds() {
        for (int wanted = -4; wanted <= 5; wanted++) {
            RowPresolve x = Told.columns(-3, 4, 0, 0, 0, 0);
            Told.equal(x, wanted, 1, 1);
            Check.is("a point at " + wanted, wanted >= -3 && wanted <= 4 ? 1 : 0, x.best(false));
            x.shrink(0, 1);
            Check.is("of the small at " + wanted, wanted >= -3 && wanted <= 4 ? 1 : 0, x.best(true));
        }
    }

    private static void allRowsHold() {
        RowPresolve none = Told.alike(1, 0, 3);
        none.shrink(0, 1);
        none.put(0, 3);
        Check.is("no rows", 1, none.back());
        for (int wrong = -1; wrong < 12; wrong++) {
            RowPresolve x = Told.alike(1, 3, 3);
            for (int row = 0; row < 12; row++) {
                Told.row(x, row % 2, row == wrong ? 2 : 3, 1);
            }
            x.shrink(0, 1);
            x.put(0, 3);
            Check.is("all but row " + wrong, wrong < 0 ? 1 : 0, x.back());
            Check.is("best of it", wrong < 0 ? 1 : 0, x.best(false));
            Check.is("best of the small", wrong < 0 ? 1 : 0, x.best(true));
        }
    }

    private static void greatValues() {
        for (int sign = -1; sign <= 1; sign += 2) {
            RowPresolve x = new RowPresolve();
            for (int i = 0; i < 12; i++) {
                x.column(sign * 10000, sign * 10000, 1000);
            }
            x.shrink(0, 1);
            for (int i = 0; i < 12; i++) {
                x.put(i, sign * 10000);
            }
            x.back();
            Check.is("value", sign * 120000000L, x.value());
            x.best(false);
            Check.is("best", sign * 120000000L, x.bestValue());
        }
        RowPresolve none = new RowPresolve();
        none.shrink(0, 1);
        none.back();
        Check.is("value without columns", 0, none.value());
    }

    private static void newObject() {
        Check.is("columns", 0, new RowPresolve().clear());
        Check.is("first column", 0, new RowPresolve().column(0, 0, 0));
        Check.is("first row", 0, new RowPresolve().row(0, 0));
        RowPresolve x = new RowPresolve();
        Check.raises("no small", Check.STATE, x::acts);
        Check.raises("no place for a term", Check.INDEX, () -> x.term(0, 0, 0));
        Check.raises("no best", Check.STATE, x::bestValue);
        Check.raises("none turned back", Check.STATE, x::value);
        Check.is("a small of nothing", 1, x.shrink(2047, 50));
        Check.raises("no column", Check.INDEX, () -> x.state(0));
        Check.raises("no row", Check.INDEX, () -> x.kind(0));
        Check.raises("no act", Check.INDEX, () -> x.act(0, 0));
        Check.is("no parts", 0, x.parts());
    }

    private static void columnNumbers() {
        RowPresolve x = new RowPresolve();
        for (int i = 0; i < 12; i++) {
            Check.raises("a wrong one has no number", Check.ARGUMENT, () -> x.column(1, 0, 0));
            Check.is("column", i, x.column(0, 0, 0));
        }
        Check.is("clear", 12, x.clear());
        Check.is("column", 0, x.column(0, 0, 0));
    }

    private static void columnsAreFull() {
        RowPresolve x = Told.alike(11, 0, 1);
        Check.is("the twelfth", 11, x.column(0, 1, 0));
        Check.raises("the thirteenth", Check.STATE, () -> x.column(0, 1, 0));
        Check.raises("once more", Check.STATE, () -> x.column(0, 1, 0));
        Edges.Make[] objects = {() -> Told.alike(12, 0, 1), Edges::full};
        for (Edges.Make make : objects) {
            Edges.refused("a right one", Check.STATE, make, y -> y.column(0, 0, 0));
            Edges.refused("a wrong bound", Check.STATE, make, y -> y.column(1, 0, 0));
            Edges.refused("a wrong cost", Check.STATE, make, y -> y.column(0, 0, 1001));
        }
        RowPresolve rows = Told.alike(11, 0, 1);
        for (int i = 0; i < 12; i++) {
            rows.row(0, 0);
        }
        Check.is("12 rows do not count", 11, rows.column(0, 0, 0));
    }

    private static void wrongColumns() {
        int[][] wrong = {{-10001, 0, 0}, {0, 10001, 0}, {10001, 10001, 0}, {-10001, -10001, 0}, {1, 0, 0},
            {0, 0, -1001}, {0, 0, 1001}, {Integer.MIN_VALUE, Integer.MAX_VALUE, 0}, {Integer.MAX_VALUE, 0, 0},
            {0, Integer.MIN_VALUE, 0}, {0, 0, Integer.MIN_VALUE}, {0, 0, Integer.MAX_VALUE}};
        Edges.Make[] objects = {RowPresolve::new, Edges::told, Edges::found, Edges::impossible};
        for (Edges.Make make : objects) {
            for (int[] w : wrong) {
                Edges.refused("column(" + w[0] + ", " + w[1] + ", " + w[2] + ")", Check.ARGUMENT, make,
                        x -> x.column(w[0], w[1], w[2]));
            }
        }
    }

    private static void rowNumbers() {
        RowPresolve x = new RowPresolve();
        for (int i = 0; i < 12; i++) {
            Check.raises("a wrong one has no number", Check.ARGUMENT, () -> x.row(2, 0));
            Check.is("row", i, x.row(i % 2, 0));
        }
        Check.is("clear", 0, x.clear());
        Check.is("row", 0, x.row(0, 0));
    }

    private static void rowsAreFull() {
        RowPresolve x = new RowPresolve();
        for (int i = 0; i < 11; i++) {
            x.row(0, 0);
        }
        Check.is("the twelfth", 11, x.row(1, 0));
        Check.raises("the thirteenth", Check.STATE, () -> x.row(1, 0));
        Edges.refused("a right one", Check.STATE, Edges::full, y -> y.row(0, 0));
        Edges.refused("a wrong kind", Check.STATE, Edges::full, y -> y.row(2, 0));
        Edges.refused("a wrong right", Check.STATE, Edges::full, y -> y.row(0, 1000001));
        RowPresolve columns = Told.alike(12, 0, 1);
        Check.is("12 columns do not count", 0, columns.row(0, 0));
    }

    private static void wrongRows() {
        int[][] wrong = {{-1, 0}, {2, 0}, {Integer.MIN_VALUE, 0}, {Integer.MAX_VALUE, 0}, {0, -1000001},
            {0, 1000001}, {1, -1000001}, {1, 1000001}, {0, Integer.MIN_VALUE}, {1, Integer.MAX_VALUE}, {2, 1000001}};
        Edges.Make[] objects = {RowPresolve::new, Edges::told, Edges::found, Edges::impossible};
        for (Edges.Make make : objects) {
            for (int[] w : wrong) {
                Edges.refused("row(" + w[0] + ", " + w[1] + ")", Check.ARGUMENT, make, x -> x.row(w[0], w[1]));
            }
        }
    }

    private static void termsAtCorners() {
        int[][] corners = {{0, 0}, {0, 11}, {11, 0}, {11, 11}};
        RowPresolve x = Told.alike(12, 0, 1);
        for (int i = 0; i < 12; i++) {
            x.row(0, 0);
        }
        for (int[] c : corners) {
            x.term(c[0], c[1], 1 + c[0] + c[1]);
        }
        x.shrink(0, 1);
        for (int row = 0; row < 12; row++) {
            for (int column = 0; column < 12; column++) {
                boolean corner = row % 11 == 0 && column % 11 == 0;
                Check.is("coefficient", corner ? 1 + row + column : 0, x.coefficient(row, column));
            }
        }
        x.term(11, 11, -7);
        x.shrink(0, 1);
        Check.is("told again", -7, x.coefficient(11, 11));
    }

    private static void wrongTerms() {
        for (int a : new int[] {-1001, 1001, Integer.MIN_VALUE, Integer.MAX_VALUE}) {
            Edges.refused("term(0, 0, " + a + ")", Check.ARGUMENT, Edges::found, x -> x.term(0, 0, a));
            Edges.refused("term(3, 0, " + a + ")", Check.INDEX, Edges::found, x -> x.term(3, 0, a));
            Edges.refused("term(0, 4, " + a + ")", Check.INDEX, Edges::found, x -> x.term(0, 4, a));
        }
        int[][] nowhere = {{-1, 0}, {3, 0}, {0, -1}, {0, 4}, {-1, -1}, {3, 4}, {12, 0}, {0, 12}};
        for (int[] n : nowhere) {
            Edges.refused("term(" + n[0] + ", " + n[1] + ", 1)", Check.INDEX, Edges::found,
                    x -> x.term(n[0], n[1], 1));
        }
        Edges.refused("no rows", Check.INDEX, () -> Told.alike(12, 0, 1), x -> x.term(0, 0, 1));
        RowPresolve cleared = Edges.found();
        cleared.clear();
        Check.raises("cleared", Check.INDEX, () -> cleared.term(0, 0, 1));
    }

    private static void clearing() {
        for (int count = 0; count <= 12; count++) {
            RowPresolve x = Told.alike(count, 0, 1);
            x.row(0, 0);
            Check.is("clear of so many", count, x.clear());
            Check.is("clear again", 0, x.clear());
            Check.is("first row", 0, x.row(0, 0));
            Check.raises("no column", Check.INDEX, () -> x.term(0, 0, 0));
            Check.is("first column", 0, x.column(0, 0, 0));
        }
        RowPresolve rows = new RowPresolve();
        rows.row(0, -1);
        Check.is("no point fits", 0, rows.best(false));
        Check.is("rows alone", 0, rows.clear());
        Check.is("they are no more", 1, rows.best(false));
        Check.is("full", 12, Edges.full().clear());
        Check.is("impossible", 4, Edges.impossible().clear());
    }

    private static void madeAnew() {
        RowPresolve x = Edges.found();
        String first = Check.everything(Edges.small());
        x.shrink(2047, 50);
        x.shrink(0, 1);
        Check.is("no acts", 0, x.acts());
        Check.is("offset", 0, x.offset());
        for (int column = 0; column < 4; column++) {
            Check.is("there", 0, x.state(column));
            Check.rests(x, column, 0, 0);
        }
        for (int row = 0; row < 3; row++) {
            Check.is("rest", 1 << row, x.rest(0, row));
        }
        x.shrink(Told.rules(6, 9), 50);
        Check.is("as it was at first", first, Check.everything(x));
        x.shrink(0, 1);
        int[] point = {0, 3, 4, -8};
        for (int column = 0; column < 4; column++) {
            x.put(column, point[column]);
        }
        Check.is("row 2 does not hold", 0, x.back());
        for (int column = 0; column < 4; column++) {
            Check.is("nothing is fixed or put in", point[column], x.at(column));
        }
        RowPresolve y = Edges.impossible();
        y.shrink(0, 1);
        Check.is("no more impossible", -1, y.certificate());
        RowPresolve z = Edges.small();
        z.term(1, 2, 0);
        z.shrink(Told.rules(6), 1);
        Check.is("with the whole as it is now", 8, z.right(1));
    }

    /** A whole at which each rule has something to do. */
    private static RowPresolve ofAllRules() {
        RowPresolve x = Told.columns(0, 1, 1, 0, 1, -2, 3, 3, 5, 0, 9, 0, 0, 9, 1, 0, 9, 1, -100, 100, 2);
        Told.atMost(x, 0);
        Told.atMost(x, 7, 2, 4, 0, 2);
        Told.atMost(x, 5, 0, 0, 0, 1);
        Told.atMost(x, 9, 0, 3, 2);
        Told.atMost(x, 9, 0, 3, 2);
        Told.equal(x, 4, 0, 0, 0, 1, 1);
        Told.atMost(x, 4, 3, 3);
        Told.equal(x, 3, 1, 0, 0, 0, 1, 0, 1);
        return x;
    }

    private static void bitsOfRules() {
        int[] bits = {1, 2, 4, 8, 16, 32, 64, 128, 256, 512, 1024};
        for (int rule = 1; rule <= 11; rule++) {
            RowPresolve x = ofAllRules();
            x.shrink(bits[rule - 1], 1);
            Check.yes("rule " + rule + " acts", x.acts() > 0);
            for (int i = 0; i < x.acts(); i++) {
                Check.is("rule of an act", rule, x.act(i, 0));
            }
        }
        RowPresolve none = ofAllRules();
        Check.is("no rules", 1, none.shrink(0, 50));
        Check.is("no acts", 0, none.acts());
    }

    private static void roundsAtMost() {
        for (int rounds = 1; rounds <= 50; rounds++) {
            RowPresolve x = Told.alike(2, 0, 10000);
            Told.atMost(x, -1, 1, -1);
            Told.atMost(x, -1, -1, 1);
            Check.is("rounds", rounds, x.shrink(Told.rules(5), rounds));
            Check.is("four acts each", 4 * rounds, x.acts());
        }
        RowPresolve none = new RowPresolve();
        Check.is("nothing to be done", 1, none.shrink(2047, 50));
        Check.is("nothing to be done", 1, none.shrink(2047, 1));
    }

    private static void zeroWhenImpossible() {
        RowPresolve x = new RowPresolve();
        x.row(0, -1);
        Check.is("rule 1", 0, x.shrink(1, 1));
        Check.is("not by other rules", 1, x.shrink(2047 - Told.rules(1, 4), 50));
        for (int rounds = 1; rounds <= 3; rounds++) {
            RowPresolve y = Told.alike(2, 0, 4);
            Told.atMost(y, -1, 1, -1);
            Told.atMost(y, -1, -1, 1);
            int done = y.shrink(Told.rules(5), rounds);
            Check.is("in the second round", rounds < 2 ? 1 : 0, done);
            Check.is("impossible", done == 0 ? 3 : -1, y.certificate());
        }
    }

    private static void wrongShrinks() {
        Edges.Make[] objects = {RowPresolve::new, Edges::told, Edges::found, Edges::impossible};
        int[][] wrong = {{-1, 1}, {2048, 1}, {0, 0}, {0, 51}, {2047, -1}, {-1, 0}, {2048, 51},
            {Integer.MIN_VALUE, 1}, {Integer.MAX_VALUE, 1}, {0, Integer.MIN_VALUE}, {0, Integer.MAX_VALUE}};
        for (Edges.Make make : objects) {
            for (int[] w : wrong) {
                Edges.refused("shrink(" + w[0] + ", " + w[1] + ")", Check.ARGUMENT, make, x -> x.shrink(w[0], w[1]));
            }
            int[][] right = {{0, 1}, {0, 50}, {2047, 1}, {2047, 50}};
            for (int[] r : right) {
                RowPresolve x = make.make();
                Check.is("shrink(" + r[0] + ", " + r[1] + ")", "nothing", Check.raised(() -> x.shrink(r[0], r[1])));
            }
        }
    }
}
