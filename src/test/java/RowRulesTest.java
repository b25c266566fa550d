/** The rules of rows: 1 EMPTY, 2 SHARED, 3 SINGLE, 4 SPAN, 5 TIGHT, 7 TWINS, 10 LESS. */
public final class RowRulesTest {
    public static void main(String[] args) {
        empty();
        emptyRests();
        shared();
        single();
        singleImpossible();
        span();
        spanAtEnd();
        spanImpossible();
        tight();
        tightImpossible();
        twinsAlike();
        twinsTurned();
        twinsOfThree();
        less();
        lessRests();
        Check.end();
    }

    private static void empty() {
        RowPresolve x = Told.alike(1, 0, 5);
        Told.atMost(x, 0);
        Told.atMost(x, 3);
        Told.equal(x, 0);
        Told.atMost(x, -1, 1);
        Check.is("shrink", 2, x.shrink(Told.rules(1), 50));
        Check.acts(x, "1 0 -1 0 0; 1 1 -1 0 3; 1 2 -1 0 0");
        Check.gone(x, 0);
        Check.gone(x, 1);
        Check.gone(x, 2);
        Check.rowIs(x, 3, 0, -1, 1);
        Check.is("right of a row that is gone", 3, x.right(1));
        Check.is("rest of a row that is gone", 2, x.rest(0, 1));
        Check.is("certificate", -1, x.certificate());
        int[][] wrong = {{0, -1}, {1, 1}, {1, -1}};
        for (int[] w : wrong) {
            RowPresolve y = Told.alike(1, 0, 5);
            Told.atMost(y, 5, 1);
            Told.row(y, w[0], w[1]);
            Check.impossible(y, Told.rules(1), 2);
            Check.is("kind stays", w[0], y.kind(1));
            Check.acts(y, "");
        }
    }

    private static void emptyRests() {
        RowPresolve x = Told.alike(2, 0, 9);
        Told.equal(x, 2, 1);
        Told.atMost(x, 4, 1, 1);
        Told.equal(x, 3, 0, 1);
        Told.atMost(x, 9, 1, 1);
        Check.impossible(x, Told.rules(1, 3, 6), 7);
        Check.is("rest of the row", 7, x.rest(0, 1));
        Check.is("right", -1, x.right(1));
    }

    private static void shared() {
        RowPresolve x = Told.alike(3, -9, 9);
        Told.atMost(x, 9, 4, 6);
        Told.atMost(x, -9, 0, -4, 6);
        Told.equal(x, 8, -4, 0, 6);
        Told.equal(x, 3, 0, -1, 2);
        Told.equal(x, 5, 1, -1);
        Told.atMost(x, 5, -1, 3);
        Told.atMost(x, -5);
        Check.is("shrink", 2, x.shrink(Told.rules(2), 50));
        Check.acts(x, "2 0 -1 3 4; 2 1 -1 3 -5; 2 2 -1 3 -4; 2 3 -1 3 -3");
        Check.rowIs(x, 0, 0, 4, 2, 3, 0);
        Check.rowIs(x, 1, 0, -5, 0, -2, 3);
        Check.rowIs(x, 2, 1, -4, 2, 0, -3);
        Check.rowIs(x, 3, 1, -3, 0, 1, -2);
        Check.rowIs(x, 4, 1, 5, 1, -1, 0);
        Check.rowIs(x, 5, 0, 5, -1, 3, 0);
        Check.rowIs(x, 6, 0, -5, 0, 0, 0);
        Check.is("rest", 4, x.rest(0, 2));
        RowPresolve y = Told.alike(2, -9, 9);
        Told.atMost(y, 9, 4, 6);
        Told.equal(y, 9, 4, 6);
        Check.impossible(y, Told.rules(2), 2);
        Check.acts(y, "2 0 -1 3 4");
        Check.rowIs(y, 1, 1, 9, 4, 6);
        RowPresolve z = Told.alike(2, -9, 9);
        Told.equal(z, -9, -4, 6);
        Check.impossible(z, Told.rules(2), 1);
    }

    private static void single() {
        RowPresolve x = Told.alike(6, -10, 10);
        Told.atMost(x, 7, 3);
        Told.atMost(x, 7, 0, -3);
        Told.equal(x, 6, 0, 0, 3);
        Told.equal(x, 6, 0, 0, 0, -3);
        Told.atMost(x, 100, 0, 0, 0, 0, 1);
        Told.atMost(x, 10, 0, 0, 0, 0, 1);
        Told.atMost(x, -7, 0, 0, 0, 0, 0, 3);
        Told.atMost(x, 5, 1, 1);
        Told.atMost(x, -5);
        Check.is("shrink", 2, x.shrink(Told.rules(3), 50));
        Check.acts(x, "3 0 0 2 2; 3 0 -1 0 7; 3 1 1 1 -2; 3 1 -1 0 7; 3 2 2 1 2; 3 2 2 2 2; 3 2 -1 0 6; "
                + "3 3 3 1 -2; 3 3 3 2 -2; 3 3 -1 0 6; 3 4 -1 0 100; 3 5 -1 0 10; 3 6 5 2 -3; 3 6 -1 0 -7");
        Check.columnIs(x, 0, 0, -10, 2, 0);
        Check.columnIs(x, 1, 0, -2, 10, 0);
        Check.columnIs(x, 2, 0, 2, 2, 0);
        Check.columnIs(x, 3, 0, -2, -2, 0);
        Check.columnIs(x, 4, 0, -10, 10, 0);
        Check.columnIs(x, 5, 0, -10, -3, 0);
        Check.rests(x, 0, 0, 1);
        Check.rests(x, 1, 2, 0);
        Check.rests(x, 2, 4, 4);
        Check.rests(x, 3, 8, 8);
        Check.rests(x, 4, 0, 0);
        Check.rowIs(x, 7, 0, 5, 1, 1);
        Check.rowIs(x, 8, 0, -5);
        for (int row = 0; row < 7; row++) {
            Check.gone(x, row);
        }
        RowPresolve y = Told.alike(1, -10, 10);
        Told.atMost(y, 7, 1);
        Told.atMost(y, 5, 1);
        Told.atMost(y, 6, 1);
        y.shrink(Told.rules(3), 1);
        Check.rests(y, 0, 0, 2);
    }

    private static void singleImpossible() {
        RowPresolve x = Told.alike(1, -9, 9);
        Told.atMost(x, 3, 1);
        Told.equal(x, 7, 3);
        Check.impossible(x, Told.rules(3), 2);
        Check.is("the row is still there", 1, x.kind(1));
        RowPresolve low = Told.alike(1, -9, 9);
        Told.atMost(low, 2, 1);
        Told.atMost(low, -3, -1);
        Check.impossible(low, Told.rules(3), 3);
        Check.columnIs(low, 0, 0, -9, 2, 0);
        Check.acts(low, "3 0 0 2 2; 3 0 -1 0 2");
        RowPresolve high = Told.alike(1, -9, 9);
        Told.atMost(high, 2, 1);
        Told.atMost(high, -3, -2);
        Told.equal(high, 1, 1);
        Check.impossible(high, Told.rules(3), 6);
        RowPresolve beyond = Told.alike(1, -9, 9);
        Told.equal(beyond, 10, 1);
        Check.impossible(beyond, Told.rules(3), 1);
        RowPresolve below = Told.alike(1, -9, 9);
        Told.equal(below, 10, -1);
        Check.impossible(below, Told.rules(3), 1);
    }

    private static void span() {
        RowPresolve x = Told.columns(0, 3, 0, -2, 2, 0);
        Told.atMost(x, 8, 2, -1);
        Told.atMost(x, 7, 2, -1);
        Told.equal(x, 8, 3, 1);
        Told.equal(x, 0);
        Told.atMost(x, 0);
        Check.is("shrink", 2, x.shrink(Told.rules(4), 50));
        Check.acts(x, "4 0 -1 0 8; 4 3 -1 0 0; 4 4 -1 0 0");
        Check.gone(x, 0);
        Check.rowIs(x, 1, 0, 7, 2, -1);
        Check.rowIs(x, 2, 1, 8, 3, 1);
        RowPresolve fixed = Told.alike(2, 4, 4);
        Told.atMost(fixed, 8, 1, 1);
        Told.equal(fixed, 8, 1, 1);
        fixed.shrink(Told.rules(4), 50);
        Check.acts(fixed, "4 0 -1 0 8; 4 1 -1 0 8");
    }

    private static void spanAtEnd() {
        RowPresolve x = Told.columns(1, 3, 0, 0, 4, 0, 0, 7, 0);
        Told.atMost(x, -3, 1, -1);
        Check.is("shrink", 2, x.shrink(Told.rules(4), 50));
        Check.acts(x, "4 0 0 2 1; 4 0 1 1 4; 4 0 -1 0 -3");
        Check.rests(x, 0, 0, 1);
        Check.rests(x, 1, 1, 0);
        Check.columnIs(x, 2, 0, 0, 7, 0);
        RowPresolve y = Told.columns(0, 9, 0, 0, 4, 0, 0, 9, 0);
        Told.atMost(y, 3, 1);
        Told.atMost(y, -2, -1);
        Told.equal(y, 3, 1, -1);
        y.shrink(Told.rules(3, 4), 1);
        Check.acts(y, "3 0 0 2 3; 3 0 -1 0 3; 3 1 0 1 2; 3 1 -1 0 -2; 4 2 0 1 3; 4 2 1 2 0; 4 2 -1 0 3");
        Check.rests(y, 0, 5, 1);
        Check.rests(y, 1, 0, 5);
        RowPresolve least = Told.columns(1, 3, 0, 0, 4, 0);
        Told.equal(least, -3, 1, -1);
        least.shrink(Told.rules(4), 1);
        Check.acts(least, "4 0 0 2 1; 4 0 1 1 4; 4 0 -1 0 -3");
        RowPresolve most = Told.columns(1, 3, 0, 0, 4, 0);
        Told.atMost(most, 3, 1, -1);
        most.shrink(Told.rules(4), 1);
        Check.acts(most, "4 0 -1 0 3");
    }

    private static void spanImpossible() {
        RowPresolve x = Told.columns(0, 9, 0, 1, 3, 0);
        Told.atMost(x, -2, -1);
        Told.atMost(x, 2, 1, 1);
        Told.atMost(x, 2, 0, 1);
        Check.impossible(x, Told.rules(3, 4), 3);
        Check.is("kind stays", 0, x.kind(1));
        RowPresolve y = Told.columns(0, 9, 0, 0, 9, 0);
        Told.atMost(y, 4, 1);
        Told.atMost(y, -1, 0, -1);
        Told.equal(y, 4, 1, -1);
        Check.impossible(y, Told.rules(3, 4), 7);
        RowPresolve z = Told.columns(0, 9, 0, 0, 9, 0);
        Told.atMost(z, -5, -1);
        Told.equal(z, 4, 1, 1);
        Check.impossible(z, Told.rules(3, 4), 3);
        RowPresolve none = Told.alike(1, 0, 1);
        Told.equal(none, 1);
        Check.impossible(none, Told.rules(4), 1);
    }

    private static void tight() {
        RowPresolve x = Told.alike(2, 0, 10);
        Told.atMost(x, 13, 2, 3);
        x.shrink(Told.rules(5), 50);
        Check.acts(x, "5 0 0 2 6; 5 0 1 2 4");
        Check.rests(x, 0, 0, 1);
        Check.rests(x, 1, 0, 1);
        Check.rowIs(x, 0, 0, 13, 2, 3);
        RowPresolve y = Told.alike(2, 0, 10);
        Told.atMost(y, -7, 2, -3);
        y.shrink(Told.rules(5), 50);
        Check.acts(y, "5 0 1 1 3");
        Check.rests(y, 1, 1, 0);
        RowPresolve equal = Told.columns(0, 3, 0, 0, 10, 0);
        Told.equal(equal, 11, 1, 2);
        equal.shrink(Told.rules(5), 50);
        Check.acts(equal, "5 0 1 2 5; 5 0 1 1 4; 5 0 0 1 1");
        RowPresolve minus = Told.columns(0, 3, 0, 0, 10, 0);
        Told.equal(minus, -11, 1, -2);
        minus.shrink(Told.rules(5), 50);
        Check.acts(minus, "5 0 1 1 6; 5 0 1 2 7; 5 0 0 1 1");
        RowPresolve rests = Told.columns(0, 10, 0, 0, 10, 0, 0, 10, 0);
        Told.atMost(rests, 3, 1);
        Told.atMost(rests, -2, -1);
        Told.equal(rests, 12, 2, 0, 1);
        rests.shrink(Told.rules(3, 5), 1);
        Check.acts(rests, "3 0 0 2 3; 3 0 -1 0 3; 3 1 0 1 2; 3 1 -1 0 -2; 5 2 2 2 8; 5 2 2 1 6");
        Check.rests(rests, 2, 5, 6);
        RowPresolve one = Told.alike(1, 0, 10);
        Told.equal(one, 9, 2);
        Check.impossible(one, Told.rules(5), 1);
        Check.acts(one, "5 0 0 2 4");
    }

    private static void tightImpossible() {
        RowPresolve x = Told.alike(3, 0, 10);
        Told.atMost(x, -4, -1);
        Told.atMost(x, -4, 0, -1);
        Told.atMost(x, 7, 1, 1);
        Check.impossible(x, Told.rules(3, 5), 7);
        RowPresolve chase = Told.alike(2, 0, 20);
        Told.atMost(chase, -1, 1, -1);
        Told.atMost(chase, -1, -1, 1);
        Check.impossible(chase, Told.rules(5), 3);
        Check.is("acts", 20, chase.acts());
    }

    private static void twinsAlike() {
        RowPresolve x = Told.alike(2, 0, 9);
        Told.atMost(x, 8, 1, 2);
        Told.atMost(x, 7, 1, 2);
        Told.atMost(x, 7, 1, 2);
        Told.atMost(x, 9, 1, 2);
        Told.atMost(x, 6, 2, 4);
        Told.atMost(x, -1);
        Told.atMost(x, -1);
        Check.is("shrink", 2, x.shrink(Told.rules(7), 50));
        Check.acts(x, "7 0 -1 0 8; 7 2 -1 0 7; 7 3 -1 0 9");
        Check.rowIs(x, 1, 0, 7, 1, 2);
        Check.is("rest", 2, x.rest(0, 1));
        Check.rowIs(x, 4, 0, 6, 2, 4);
        Check.is("a row without terms has no twin", 0, x.kind(6));
        RowPresolve one = Told.alike(1, 0, 9);
        Told.atMost(one, 4, 1);
        Told.atMost(one, 5, 1);
        one.shrink(Told.rules(7), 50);
        Check.acts(one, "7 1 -1 0 5");
        RowPresolve equal = Told.alike(2, 0, 9);
        Told.equal(equal, 8, 1, 2);
        Told.equal(equal, 8, 1, 2);
        Told.atMost(equal, 8, 1, 2);
        Told.atMost(equal, 9, 1, 2);
        Told.equal(equal, 8, -1, -2);
        Told.equal(equal, 8, 1, 3);
        equal.shrink(Told.rules(7), 50);
        Check.acts(equal, "7 1 -1 0 8; 7 2 -1 0 8; 7 3 -1 0 9");
        RowPresolve first = Told.alike(2, 0, 9);
        Told.atMost(first, 8, 1, 2);
        Told.equal(first, 8, 1, 2);
        Told.equal(first, 8, 1, 2);
        first.shrink(Told.rules(7), 50);
        Check.acts(first, "7 0 -1 0 8; 7 2 -1 0 8");
        int[][] wrong = {{1, 5, 1, 6}, {1, 6, 1, 5}, {0, 5, 1, 6}, {1, 6, 0, 5}};
        for (int[] w : wrong) {
            RowPresolve y = Told.alike(2, 0, 9);
            Told.atMost(y, 3, 1);
            Told.row(y, w[0], w[1], 1, 2);
            Told.row(y, w[2], w[3], 1, 2);
            Check.impossible(y, Told.rules(7), 6);
            Check.acts(y, "");
        }
    }

    private static void twinsTurned() {
        RowPresolve x = Told.alike(2, 0, 9);
        Told.atMost(x, 3, 1, -2);
        Told.atMost(x, -3, -1, 2);
        Check.is("shrink", 2, x.shrink(Told.rules(7), 50));
        Check.acts(x, "7 0 -1 3 3; 7 1 -1 0 -3");
        Check.rowIs(x, 0, 1, 3, 1, -2);
        Check.is("rest", 3, x.rest(0, 0));
        Check.is("rest of the other", 2, x.rest(0, 1));
        RowPresolve wide = Told.alike(2, 0, 9);
        Told.atMost(wide, 3, 1, -2);
        Told.atMost(wide, -2, -1, 2);
        Check.is("nothing", 1, wide.shrink(Told.rules(7), 50));
        RowPresolve wrong = Told.alike(2, 0, 9);
        Told.atMost(wrong, 3, 1, -2);
        Told.atMost(wrong, -4, -1, 2);
        Check.impossible(wrong, Told.rules(7), 3);
        Check.acts(wrong, "");
        RowPresolve kinds = Told.alike(2, 0, 9);
        Told.atMost(kinds, 3, 1, -2);
        Told.equal(kinds, -4, -1, 2);
        Check.is("unlike kinds", 1, kinds.shrink(Told.rules(7), 50));
        RowPresolve half = Told.alike(2, 0, 9);
        Told.atMost(half, 3, 1, -2);
        Told.atMost(half, -4, -1, -2);
        Check.is("not all signs", 1, half.shrink(Told.rules(7), 50));
    }

    /** The first row has become equal: what comes behind is looked at as such. */
    private static void twinsOfThree() {
        RowPresolve x = Told.alike(2, 0, 9);
        Told.atMost(x, 3, 1, 1);
        Told.atMost(x, -3, -1, -1);
        Told.atMost(x, 3, 1, 1);
        Told.atMost(x, 2, -1, -1);
        x.shrink(Told.rules(7), 1);
        Check.acts(x, "7 0 -1 3 3; 7 1 -1 0 -3; 7 2 -1 0 3");
        Check.rowIs(x, 3, 0, 2, -1, -1);
        RowPresolve y = Told.alike(2, 0, 9);
        Told.atMost(y, 3, 1, 1);
        Told.atMost(y, -3, -1, -1);
        Told.atMost(y, 2, 1, 1);
        Check.impossible(y, Told.rules(7), 7);
        RowPresolve fixed = Told.alike(3, 0, 9);
        Told.equal(fixed, 2, 0, 0, 1);
        Told.atMost(fixed, 5, 1, 1, 1);
        Told.atMost(fixed, 3, 1, 1, 0);
        fixed.shrink(Told.rules(3, 6, 7), 1);
        Check.is("alike when a column is fixed", 3, fixed.right(1));
        Check.gone(fixed, 2);
    }

    private static void less() {
        RowPresolve x = Told.columns(0, 1, 0, 0, 1, 0, 0, 2, 0);
        Told.atMost(x, 6, 5, 1, 2);
        Check.is("shrink", 2, x.shrink(Told.rules(10), 50));
        Check.acts(x, "10 0 -1 3 5");
        Check.rowIs(x, 0, 0, 5, 4, 1, 2);
        RowPresolve y = Told.columns(0, 1, 0, 0, 3, 0);
        Told.atMost(y, 4, -5, 2);
        y.shrink(Told.rules(10), 50);
        Check.acts(y, "10 0 -1 3 4");
        Check.rowIs(y, 0, 0, 4, -2, 2);
        RowPresolve two = Told.alike(2, 0, 1);
        Told.atMost(two, 4, 3, 3);
        two.shrink(Told.rules(10), 1);
        Check.acts(two, "10 0 -1 3 3; 10 0 -1 3 2");
        Check.rowIs(two, 0, 0, 2, 2, 2);
        untouchedByLess();
    }

    private static void untouchedByLess() {
        int[][] rows = {{0, 3, 3, 3}, {0, 6, 3, 3}, {0, 2, -2, 4}, {0, 4, -2, 4}, {0, 0, -2, 2}, {1, 4, 3, 3}};
        for (int[] row : rows) {
            RowPresolve x = Told.alike(2, 0, 1);
            Told.row(x, row[0], row[1], row[2], row[3]);
            boolean acts = row[1] == 2 && row[2] == -2;
            x.shrink(Told.rules(10), 1);
            Check.is("acts of " + row[1] + " " + row[2] + " " + row[3], acts ? 1 : 0, x.acts());
        }
        int[][] bounds = {{0, 2}, {-1, 1}, {1, 2}, {-1, 0}, {0, 0}, {1, 1}};
        for (int[] bound : bounds) {
            RowPresolve x = Told.columns(bound[0], bound[1], 0, 0, 1, 0);
            Told.atMost(x, 6, 8);
            Check.is("not between 0 and 1", 1, x.shrink(Told.rules(10), 50));
        }
    }

    private static void lessRests() {
        RowPresolve x = Told.alike(3, 0, 9);
        Told.atMost(x, 1, 1);
        Told.atMost(x, 2, 0, 1);
        Told.atMost(x, -1, 0, 0, -1);
        Told.atMost(x, 9, 0, 0, 1);
        Told.atMost(x, 5, 7, 1, -1);
        x.shrink(Told.rules(3, 10), 1);
        Check.rowIs(x, 4, 0, 1, 3, 1, -1);
        Check.is("rest", 1 + 2 + 4 + 16, x.rest(0, 4));
        Check.is("the last act", 10, x.act(x.acts() - 1, 0));
        RowPresolve low = Told.columns(-9, 1, 0, 0, 2, 0);
        Told.atMost(low, 0, -1);
        Told.atMost(low, 4, 7, 1);
        low.shrink(Told.rules(3, 10), 1);
        Check.rowIs(low, 1, 0, 2, 5, 1);
        Check.is("rest", 3, low.rest(0, 1));
        RowPresolve wrong = Told.alike(2, 0, 9);
        Told.atMost(wrong, 1, 1);
        Told.atMost(wrong, 2, 0, 1);
        Told.atMost(wrong, 5, 7, 1);
        Told.atMost(wrong, 99, 1, 1);
        Told.equal(wrong, 3, 4, 1);
        Check.impossible(wrong, Told.rules(3, 7, 10), 1 + 2 + 4 + 16);
        Check.rowIs(wrong, 2, 0, 2, 4, 1);
    }
}
