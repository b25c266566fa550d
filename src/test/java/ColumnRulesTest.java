/** The rules of columns: 6 FIX, 8 SIDE, 9 PUT IN, 11 FREE. */
public final class ColumnRulesTest {
    public static void main(String[] args) {
        fix();
        fixRests();
        sideLow();
        sideHigh();
        sideNothing();
        sideCertificate();
        putIn();
        putInRowsBefore();
        putInWhich();
        putInNarrows();
        putInRests();
        putInImpossible();
        putInLimits();
        free();
        freeCertificate();
        freeNothing();
        freeLimits();
        Check.end();
    }

    private static void fix() {
        RowPresolve x = Told.columns(3, 3, 5, 0, 9, 2, -2, -2, -7);
        Told.atMost(x, 10, 2, 1, -3);
        Told.equal(x, 10, 0, 1, 4);
        Told.equal(x, 10, 0, 1);
        Check.is("shrink", 2, x.shrink(Told.rules(6), 50));
        Check.acts(x, "6 -1 0 4 3; 6 -1 2 4 -2");
        Check.columnIs(x, 0, 1, 3, 3, 0);
        Check.columnIs(x, 1, 0, 0, 9, 2);
        Check.columnIs(x, 2, 1, -2, -2, 0);
        Check.rowIs(x, 0, 0, -2, 0, 1, 0);
        Check.rowIs(x, 1, 1, 18, 0, 1, 0);
        Check.rowIs(x, 2, 1, 10, 0, 1, 0);
        Check.is("offset", 29, x.offset());
        Check.is("rest", 1, x.rest(0, 0));
    }

    private static void fixRests() {
        RowPresolve x = Told.alike(2, 0, 9);
        Told.atMost(x, 4, 1);
        Told.atMost(x, -4, -1);
        Told.atMost(x, 7, 2, 1);
        Told.atMost(x, 7, 0, 1);
        Told.atMost(x, 4, 1);
        x.shrink(Told.rules(3, 6), 1);
        Check.is("rest of the row with a term", 7, x.rest(0, 2));
        Check.is("right", -1, x.right(2));
        Check.is("rest of a row without", 8, x.rest(0, 3));
        Check.is("rest of a row that is gone", 16, x.rest(0, 4));
        Check.is("right of a row that is gone", 4, x.right(4));
        Check.rests(x, 0, 2, 1);
    }

    private static void sideLow() {
        RowPresolve x = Told.columns(-1, 9, 3, 1, 9, 0, 2, 9, 0, 3, 9, 1);
        Told.atMost(x, 30, 1, 2);
        Told.atMost(x, 30, 0, 1);
        Check.is("shrink", 2, x.shrink(Told.rules(8), 50));
        Check.acts(x, "8 -1 0 2 -1; 8 -1 1 2 1; 8 -1 2 2 2; 8 -1 3 2 3");
        Check.rests(x, 0, 0, 3);
        Check.rests(x, 3, 0, 3);
        Check.columnIs(x, 0, 0, -1, -1, 3);
    }

    private static void sideHigh() {
        RowPresolve x = Told.columns(-1, 9, -3, 1, 8, 0, 2, 7, -1, 0, 3, 1);
        Told.atMost(x, 30, -1, -2);
        Told.atMost(x, 30, 0, -1, 0, 1);
        Told.atMost(x, 30, 0, -1, 0, 1);
        Check.is("shrink", 2, x.shrink(Told.rules(8), 50));
        Check.acts(x, "8 -1 0 1 9; 8 -1 1 1 8; 8 -1 2 1 7; 8 -1 3 2 0");
        Check.rests(x, 0, 7, 0);
        Check.rests(x, 2, 7, 0);
    }

    private static void sideNothing() {
        RowPresolve x = Told.columns(0, 9, -1, 0, 9, 1, 0, 9, 0, 4, 4, 1, 0, 9, 1, 0, 9, -1, 0, 9, 0);
        Told.atMost(x, 9, 1, -1, 1);
        Told.atMost(x, 9, 1, -1, -1, 1);
        Told.equal(x, 9, 0, 0, 0, 0, 1, -1, 1);
        Check.is("shrink", 1, x.shrink(Told.rules(8), 50));
        RowPresolve gone = Told.columns(0, 9, 1);
        Told.equal(gone, 0);
        Told.atMost(gone, 0, -1);
        gone.shrink(Told.rules(4, 8), 50);
        Check.acts(gone, "4 0 -1 0 0; 4 1 -1 0 0; 8 -1 0 2 0");
        RowPresolve rests = Told.columns(0, 9, 1, 0, 9, -1);
        Told.equal(rests, 9, 0, 1);
        Told.atMost(rests, 8, 0, 1);
        Told.atMost(rests, -1, 1);
        rests.shrink(Told.rules(8), 50);
        Check.rests(rests, 0, 0, 7);
    }

    /** Column 0 goes to its side, then is fixed there: what its row makes impossible rests on all rows. */
    private static void sideCertificate() {
        RowPresolve x = Told.columns(0, 9, 1, 2, 5, -1, 0, 9, -1);
        Told.atMost(x, 1, 1, 1);
        Told.equal(x, 9, 0, 1, 1);
        Told.equal(x, 9, 0, 1, 1);
        Check.impossible(x, Told.rules(3, 6, 8), 7);
        Check.acts(x, "8 -1 0 2 0; 6 -1 0 4 0");
        Check.is("rest of its row", 7, x.rest(0, 0));
        Check.is("rest of another", 2, x.rest(0, 1));
    }

    private static void putIn() {
        RowPresolve x = Told.columns(-50, 50, 3, -50, 50, 7, -50, 50, 1);
        Told.equal(x, 10, 2, -1);
        Told.atMost(x, 20, 1, 3, 4);
        Told.equal(x, 20, 0, -2, 4);
        Told.atMost(x, 20, 5, 0, 1);
        Check.is("shrink", 2, x.shrink(Told.rules(9), 50));
        Check.acts(x, "9 0 0 1 -20; 9 0 0 2 30; 9 0 1 5 -10");
        Check.columnIs(x, 0, 0, -20, 30, 17);
        Check.columnIs(x, 1, 2, -50, 50, 0);
        Check.columnIs(x, 2, 0, -50, 50, 1);
        Check.gone(x, 0);
        Check.is("right of the row", 10, x.right(0));
        Check.rowIs(x, 1, 0, 50, 7, 0, 4);
        Check.rowIs(x, 2, 1, 0, -4, 0, 4);
        Check.rowIs(x, 3, 0, 20, 5, 0, 1);
        Check.is("offset", -70, x.offset());
        Check.is("rest of a row with x", 3, x.rest(0, 1));
        Check.is("rest of a row with x", 5, x.rest(0, 2));
        Check.is("rest of a row without x", 8, x.rest(0, 3));
        Check.is("rest of the row itself", 1, x.rest(0, 0));
    }

    private static void putInRowsBefore() {
        RowPresolve x = Told.alike(2, -50, 50);
        Told.atMost(x, 7, 1, 2);
        Told.equal(x, 3, 4, 1);
        x.shrink(Told.rules(9), 1);
        Check.rowIs(x, 0, 0, 1, -7, 0);
        Check.is("rest", 3, x.rest(0, 0));
        RowPresolve limit = Told.alike(2, -9, 9);
        Told.atMost(limit, 7, 1, -1000);
        Told.equal(limit, 3, 1000, 1);
        Check.is("nothing is done", 1, limit.shrink(Told.rules(9), 50));
    }

    private static void putInWhich() {
        int[][] rows = {{1, 1, 1}, {1, -1, 1}, {2, 1, 1}, {1, 2, 0}, {-1, 2, 0}, {2, 3, -1}, {2, -2, -1}};
        for (int[] row : rows) {
            RowPresolve x = Told.alike(2, -9, 9);
            Told.equal(x, 6, row[0], row[1]);
            x.shrink(Told.rules(9), 1);
            for (int column = 0; column < 2; column++) {
                Check.is("put in of " + row[0] + ", " + row[1], column == row[2] ? 2 : 0, x.state(column));
            }
        }
        RowPresolve x = Told.alike(3, -9, 9);
        Told.equal(x, 6, 1, 1, 1);
        Told.equal(x, 6, 1);
        Told.atMost(x, 6, 1, 1);
        Told.equal(x, 0);
        Check.is("not just two terms, or not equal", 1, x.shrink(Told.rules(9), 50));
    }

    private static void putInNarrows() {
        int[][] cases = {
            {3, -1, 7, -3, 2}, {3, -1, -7, -2, 3}, {-3, -1, 7, -2, 3}, {-3, 1, 7, -3, 2},
            {3, 1, 7, -2, 3}, {3, 1, -7, -3, 2},
        };
        for (int[] c : cases) {
            RowPresolve x = Told.columns(-50, 50, 0, -5, 5, 0);
            Told.equal(x, c[2], c[0], c[1]);
            x.shrink(Told.rules(9), 1);
            int low = 99;
            int high = -99;
            for (int y = -50; y <= 50; y++) {
                int left = (c[2] - c[0] * y) * c[1];
                if (left >= -5 && left <= 5) {
                    low = Math.min(low, y);
                    high = Math.max(high, y);
                }
            }
            Check.columnIs(x, 0, 0, low, high, 0);
            Check.is("s R", c[1] * c[2], x.act(x.acts() - 1, 4));
            boolean highFirst = -c[1] * c[0] < 0;
            Check.is("by the low of x first", highFirst ? 2 : 1, x.act(0, 3));
            Check.is("then by its high", highFirst ? 1 : 2, x.act(1, 3));
        }
    }

    private static void putInRests() {
        RowPresolve x = Told.alike(2, -50, 50);
        Told.atMost(x, 5, 0, 1);
        Told.atMost(x, 4, 0, -1);
        Told.equal(x, 0, 2, -1);
        x.shrink(Told.rules(3, 9), 1);
        Check.rests(x, 0, 6, 5);
        Check.columnIs(x, 0, 0, -2, 2, 0);
        RowPresolve turned = Told.alike(2, -50, 50);
        Told.atMost(turned, 5, 0, 1);
        Told.atMost(turned, 4, 0, -1);
        Told.equal(turned, 0, 2, 1);
        turned.shrink(Told.rules(3, 9), 1);
        Check.rests(turned, 0, 5, 6);
    }

    private static void putInImpossible() {
        RowPresolve x = Told.columns(0, 3, 0, 0, 9, 0);
        Told.atMost(x, -8, 0, -1);
        Told.equal(x, 0, 2, -1);
        Check.impossible(x, Told.rules(3, 9), 3);
        Check.columnIs(x, 1, 0, 8, 9, 0);
        Check.is("the row is still there", 1, x.kind(1));
        RowPresolve y = Told.columns(5, 9, 0, 0, 9, 0);
        Told.atMost(y, -6, -1);
        Told.atMost(y, 4, 0, 1);
        Told.equal(y, 0, 1, -1);
        Check.impossible(y, Told.rules(3, 9), 7);
    }

    /** Coefficients and costs; the limits of rights and of s R times a cost are looked at by ColumnRuleEdges. */
    private static void putInLimits() {
        int[][] coefficients = {{1000, -1000, 0, 2}, {1000, 1000, 0, 2}, {1000, -1000, 1, 0}, {1000, 1000, -1, 0},
            {1000, -1000, -1, 2}, {-1000, 1000, 1, 0}, {-1000, -1000, -1, 0}};
        for (int[] c : coefficients) {
            RowPresolve x = Told.alike(2, -9, 9);
            Told.equal(x, 0, c[1], 1);
            Told.atMost(x, 5, c[2], c[0]);
            x.shrink(Told.rules(9), 1);
            Check.is("state at coefficients", c[3], x.state(1));
            Check.is("acts", c[3] == 2 ? 3 : 0, x.acts());
            Check.is("coefficient", c[3] == 2 ? c[2] - c[0] * c[1] : c[2], x.coefficient(1, 0));
        }
        int[][] costs = {{0, 1000, -1000, 2}, {1, 1000, -1000, 0}, {-1, 1000, -1000, 2}, {0, 1000, 1000, 2},
            {-1, 1000, 1000, 0}, {1000, -1000, -1000, 0}, {-1000, -1000, 1000, 0}, {-1000, 1000, -1000, 2}};
        for (int[] c : costs) {
            int due = Math.abs(c[0] - c[1] * c[2]) <= 1000000 ? 2 : 0;
            RowPresolve x = Told.columns(-9, 9, c[0], -10000, 10000, c[1]);
            Told.equal(x, 0, c[2], 1);
            x.shrink(Told.rules(9), 1);
            Check.is("state at costs", due, x.state(1));
            Check.is("cost", due == 2 ? c[0] - c[1] * c[2] : c[0], x.cost(0));
        }
    }

    private static void free() {
        RowPresolve x = Told.columns(0, 4, 1, 0, 3, 2, -10, 20, 5);
        Told.equal(x, 6, 2, -3, 1);
        Told.atMost(x, 5, 1, 1);
        Check.is("shrink", 2, x.shrink(Told.rules(11), 50));
        Check.acts(x, "11 0 2 5 6");
        Check.columnIs(x, 0, 0, 0, 4, -9);
        Check.columnIs(x, 1, 0, 0, 3, 17);
        Check.columnIs(x, 2, 2, -10, 20, 0);
        Check.is("offset", 30, x.offset());
        Check.gone(x, 0);
        Check.rowIs(x, 1, 0, 5, 1, 1, 0);
        Check.is("rest", 2, x.rest(0, 1));
        x.put(0, 4);
        x.put(1, 1);
        Check.is("back", 1, x.back());
        Check.is("x of it", 1, x.at(2));
        Check.is("value", 11, x.value());
        RowPresolve two = Told.columns(0, 4, 0, -9, 9, 0);
        Told.equal(two, 5, 2, 1);
        two.shrink(Told.rules(11), 50);
        Check.acts(two, "11 0 1 5 5");
        RowPresolve minus = Told.columns(0, 4, 1, 0, 3, 2, -20, 10, 5);
        Told.equal(minus, 6, 2, -3, -1);
        minus.shrink(Told.rules(11), 50);
        Check.acts(minus, "11 0 2 5 -6");
        Check.columnIs(minus, 0, 0, 0, 4, 11);
        Check.columnIs(minus, 1, 0, 0, 3, -13);
        Check.is("offset", -30, minus.offset());
        minus.put(0, 1);
        minus.put(1, 2);
        Check.is("back", 1, minus.back());
        Check.is("x of it", -10, minus.at(2));
    }

    /** Behind it the rows that are left rest on themselves: the row that is gone is not in the certificate. */
    private static void freeCertificate() {
        RowPresolve x = Told.columns(0, 8, 0, 0, 8, 0, -20, 20, 0);
        Told.equal(x, 6, 1, 1, 1);
        Told.atMost(x, -1, 1, -1);
        Told.atMost(x, -1, -1, 1);
        Check.impossible(x, Told.rules(5, 11), 6);
        Check.is("put in", 2, x.state(2));
        Check.is("rest of the row that is gone", 1, x.rest(0, 0));
        Check.is("rest", 2, x.rest(0, 1));
        Check.rests(x, 2, 1, 1);
    }

    private static void freeNothing() {
        int[][] bounds = {{-2, 15, 1, 2}, {-1, 15, 1, 0}, {-2, 14, 1, 0}, {-15, 2, -1, 2}, {-14, 2, -1, 0},
            {-15, 1, -1, 0}, {-99, 99, 2, 0}};
        for (int[] b : bounds) {
            RowPresolve x = Told.columns(0, 4, 0, 0, 3, 0, b[0], b[1], 0);
            Told.equal(x, 6, 2, -3, b[2]);
            Told.atMost(x, 9, 1, 1);
            x.shrink(Told.rules(11), 1);
            Check.is("state at " + b[0] + " .. " + b[1], b[3], x.state(2));
        }
        RowPresolve other = Told.columns(0, 4, 0, 0, 3, 0, -99, 99, 0);
        Told.equal(other, 6, 2, -3, 1);
        Told.atMost(other, 9, 1, 1, 1);
        Check.is("a second term", 1, other.shrink(Told.rules(11), 50));
        RowPresolve kind = Told.columns(0, 4, 0, 0, 3, 0, -99, 99, 0);
        Told.atMost(kind, 6, 2, -3, 1);
        Check.is("not equal", 1, kind.shrink(Told.rules(11), 50));
        RowPresolve single = Told.columns(-99, 99, 0);
        Told.equal(single, 6, 1);
        Check.is("one term", 1, single.shrink(Told.rules(11), 50));
        RowPresolve gone = Told.columns(0, 4, 0, 0, 3, 0, -99, 99, 0);
        Told.equal(gone, 6, 2, -3, 1);
        Told.atMost(gone, 999, 1, 1, 1);
        gone.shrink(Told.rules(4, 11), 50);
        Check.acts(gone, "4 1 -1 0 999; 11 0 2 5 6");
    }

    private static void freeLimits() {
        int[][] costs = {{0, 1000, 2}, {-1, 1000, 0}, {1, 1000, 2}, {0, -1000, 2}, {1, -1000, 0}};
        for (int[] c : costs) {
            RowPresolve x = Told.columns(-1, 1, c[0], -1, 1, 0, -9999, 9999, c[1]);
            Told.equal(x, 0, 1000, 2, 1);
            x.shrink(Told.rules(11), 1);
            Check.is("state at cost " + c[0] + ", " + c[1], c[2], x.state(2));
            Check.is("cost", c[2] == 2 ? c[0] - 1000 * c[1] : c[0], x.cost(0));
            Check.is("cost of the other", c[2] == 2 ? -2 * c[1] : 0, x.cost(1));
        }
    }
}
