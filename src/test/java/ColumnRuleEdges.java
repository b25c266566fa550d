/** The rules of columns, sentence by sentence: 6 FIX, 8 SIDE, 9 PUT IN, 11 FREE. */
final class ColumnRuleEdges {
    private ColumnRuleEdges() {
    }

    static void run() {
        fixAndSide();
        putIn();
        free();
    }

    private static void fixAndSide() {
        Edges.says("Rule 6", "a column with LOW = HIGH is FIXED at that number n", ColumnRuleEdges::fixWhich);
        Edges.says("Rule 6", "each row that is THERE and has a TERM of it: its RIGHT is less by a n, its REST is more "
                + "by those of both bounds", ColumnRuleEdges::fixRows);
        Edges.says("Rule 6", "OFFSET is more by n times the COST. One ACT.", ColumnRuleEdges::fixOffset);
        Edges.says("Rule 8", "a column with LOW below HIGH, by the rows that are THERE", ColumnRuleEdges::sideWhich);
        Edges.says("Rule 8", "if its COST is not below 0, and all its TERMS are above 0 and in rows of KIND 0 (or it "
                + "has none): its HIGH is narrowed to its LOW", ColumnRuleEdges::sideToLow);
        Edges.says("Rule 8", "else, if its COST is not above 0, and all its TERMS are below 0 and in rows of KIND 0 "
                + "(or it has none): its LOW is narrowed to its HIGH", ColumnRuleEdges::sideToHigh);
        Edges.says("Rule 8", "by the REST of all rows of the whole", ColumnRuleEdges::sideRests);
    }

    private static void putIn() {
        Edges.says("Rule 9", "a row of KIND 1 with just two TERMS", ColumnRuleEdges::putInRows);
        Edges.says("Rule 9", "x is that of both columns with the greater number, if its coefficient is 1 or -1; else "
                + "the other one, if its coefficient is; else nothing is done", ColumnRuleEdges::putInWhich);
        Edges.says("Rule 9", "If then a coefficient, or the COST of y, would be beyond -1000000 .. 1000000",
                ColumnRuleEdges::putInCoefficients);
        Edges.says("Rule 9", "or the COST of y, would be beyond -1000000 .. 1000000", ColumnRuleEdges::putInCosts);
        Edges.says("Rule 9", "a RIGHT beyond -10^11 .. 10^11", ColumnRuleEdges::putInRights);
        Edges.says("Rule 9", "or s R times the COST of x beyond -10^15 .. 10^15: nothing is done",
                ColumnRuleEdges::putInShifts);
        Edges.says("Rule 9", "y is narrowed by the bounds of x, first by LOW of x, then by HIGH of x",
                ColumnRuleEdges::putInOrder);
        Edges.says("Rule 9", "q above 0: LOW of y to (LOW of x - s R) / q UP, HIGH of y to (HIGH of x - s R) / q DOWN",
                ColumnRuleEdges::putInAbove);
        Edges.says("Rule 9", "q below 0: HIGH of y to (LOW of x - s R) / q DOWN, LOW of y to (HIGH of x - s R) / q UP",
                ColumnRuleEdges::putInBelow);
        Edges.says("Rule 9", "each by the REST of the row and of that bound of x", ColumnRuleEdges::putInRests);
        Edges.says("Rule 9", "in each other row that is THERE with a TERM d of x, the coefficient of y is more by d q, "
                + "RIGHT less by d s R, the REST more by the row's", ColumnRuleEdges::putInOthers);
        Edges.says("Rule 9", "the COST of y is more by q times that of x, OFFSET by s R times that; x is PUT IN, the "
                + "row is GONE: one ACT", ColumnRuleEdges::putInBeyondInt);
    }

    private static void free() {
        Edges.says("Rule 11", "a column x whose only TERM among the rows that are THERE is 1 or -1 (s)",
                ColumnRuleEdges::freeOnlyTerm);
        Edges.says("Rule 11", "in a row of KIND 1 with two TERMS or more", ColumnRuleEdges::freeRows);
        Edges.says("Rule 11", "if R - G .. R - L (s = -1: L - R .. G - R) lies within LOW .. HIGH of x",
                ColumnRuleEdges::freeWithin);
        Edges.says("Rule 11", "If the COST of such a y would be beyond -1000000 .. 1000000",
                ColumnRuleEdges::freeCosts);
        Edges.says("Rule 11", "or s R times the COST of x beyond -10^15 .. 10^15: nothing is done",
                ColumnRuleEdges::freeShifts);
        Edges.says("Rule 11", "x is s R less the sum of s b y for all other TERMS b y", ColumnRuleEdges::freeBack);
        Edges.says("Rule 11", "Else the COST of each such y is less by s b times that of x, OFFSET more by s R times "
                + "that; x is PUT IN, the row is GONE: one ACT.", ColumnRuleEdges::freeDone);
    }

    private static void fixWhich() {
        int[][] bounds = {{-10000, -10000}, {-1, -1}, {0, 0}, {1, 1}, {10000, 10000}};
        for (int[] b : bounds) {
            RowPresolve x = Told.columns(b[0], b[1], 0);
            Check.actsOf(x, Told.rules(6), "6 -1 0 4 " + b[0]);
            Check.columnIs(x, 0, 1, b[0], b[0], 0);
        }
        int[][] apart = {{-1, 0}, {0, 1}, {-10000, -9999}, {9999, 10000}, {-10000, 10000}};
        for (int[] b : apart) {
            RowPresolve x = Told.columns(b[0], b[1], 0);
            Check.actsOf(x, Told.rules(6), "");
            Check.is("state", 0, x.state(0));
        }
        RowPresolve all = Told.alike(12, 3, 3);
        Check.is("twelve, and none again", 2, all.shrink(Told.rules(6), 50));
        Check.is("acts", 12, all.acts());
        RowPresolve none = new RowPresolve();
        Check.is("no columns", 1, none.shrink(Told.rules(6), 50));
    }

    private static void fixRows() {
        for (int sign = -1; sign <= 1; sign += 2) {
            RowPresolve x = Told.alike(12, sign * 10000, sign * 10000);
            for (int row = 0; row < 12; row++) {
                x.row(row % 2, -sign * 1000000);
                for (int column = 0; column <= row; column++) {
                    x.term(row, column, 1000);
                }
            }
            x.shrink(Told.rules(6), 1);
            for (int row = 0; row < 12; row++) {
                Check.rowIs(x, row, row % 2, -sign * (1000000L + 10000000L * (row + 1)), new int[12]);
            }
        }
        RowPresolve rests = Told.alike(3, 0, 9);
        Told.atMost(rests, 4, 1);
        Told.atMost(rests, -4, -1);
        for (int a = -2; a <= 2; a++) {
            Told.atMost(rests, 7, a, 1, 1);
        }
        Check.is("shrink", 1, rests.shrink(Told.rules(3, 6), 1));
        Check.rowIs(rests, 0, -1, 4, 0, 0, 0);
        Check.rowIs(rests, 1, -1, -4, 0, 0, 0);
        Check.is("rest of a row that is gone", 1, rests.rest(0, 0));
        Check.is("rest of a row that is gone", 2, rests.rest(0, 1));
        for (int a = -2; a <= 2; a++) {
            int row = 4 + a;
            Check.rowIs(rests, row, 0, 7 - 4 * a, 0, 1, 1);
            Check.is("rest with a term " + a, (1 << row) + (a == 0 ? 0 : 1 + 2), rests.rest(0, row));
        }
    }

    private static void fixOffset() {
        int[][] cases = {{10000, 1000}, {10000, -1000}, {-10000, 1000}, {-10000, -1000}, {0, 1000}, {7, 0}};
        for (int[] c : cases) {
            RowPresolve x = new RowPresolve();
            for (int i = 0; i < 12; i++) {
                x.column(c[0], c[0], c[1]);
            }
            x.shrink(Told.rules(6), 50);
            Check.is("offset", 12L * c[0] * c[1], x.offset());
            Check.is("one act each", 12, x.acts());
            Check.is("cost of it then", 0, x.cost(0));
        }
    }

    private static void sideWhich() {
        RowPresolve same = Told.columns(4, 4, 1, -4, -4, -1, 0, 0, 0);
        Check.actsOf(same, Told.rules(8), "");
        RowPresolve next = Told.columns(4, 5, 1, -5, -4, -1, -10000, 10000, 0);
        Check.actsOf(next, Told.rules(8), "8 -1 0 2 4; 8 -1 1 1 -4; 8 -1 2 2 -10000");
        RowPresolve gone = Told.columns(0, 9, 1);
        Told.atMost(gone, 0, -1);
        Check.actsOf(gone, Told.rules(8), "");
        gone.shrink(Told.rules(4, 8), 1);
        Check.acts(gone, "4 0 -1 0 0; 8 -1 0 2 0");
    }

    /** One column of this cost with these coefficients in rows of a kind, another column that keeps the rows there. */
    private static RowPresolve sided(int cost, int kind, int... coefficients) {
        RowPresolve x = Told.columns(-3, 8, cost, 4, 4, 0);
        for (int a : coefficients) {
            Told.row(x, kind, 50, a, 1);
        }
        return x;
    }

    private static void sideToLow() {
        for (int cost : new int[] {0, 1, 1000}) {
            Check.actsOf(sided(cost, 0), Told.rules(8), "8 -1 0 2 -3");
            Check.actsOf(sided(cost, 0, 1), Told.rules(8), "8 -1 0 2 -3");
            Check.actsOf(sided(cost, 0, 1, 0, 1000), Told.rules(8), "8 -1 0 2 -3");
            Check.actsOf(sided(cost, 0, 1, 2, 3, 4, 5, 6, 7, 8, 9, 10, 11, -1), Told.rules(8), "");
            Check.actsOf(sided(cost, 0, 1, -1), Told.rules(8), "");
            Check.actsOf(sided(cost, 1, 1), Told.rules(8), "");
            Check.actsOf(sided(cost, 1, 0), Told.rules(8), "8 -1 0 2 -3");
        }
        Check.actsOf(sided(-1, 0, 1), Told.rules(8), "");
        Check.actsOf(sided(1, 0, -1), Told.rules(8), "");
    }

    private static void sideToHigh() {
        for (int cost : new int[] {-1000, -1}) {
            Check.actsOf(sided(cost, 0), Told.rules(8), "8 -1 0 1 8");
            Check.actsOf(sided(cost, 1, 0), Told.rules(8), "8 -1 0 1 8");
        }
        for (int cost : new int[] {-1000, -1, 0}) {
            Check.actsOf(sided(cost, 0, -1), Told.rules(8), "8 -1 0 1 8");
            Check.actsOf(sided(cost, 0, -1, 0, -1000), Told.rules(8), "8 -1 0 1 8");
            Check.actsOf(sided(cost, 0, -1, -2, -3, -4, -5, -6, -7, -8, -9, -10, -11, 1), Told.rules(8), "");
            Check.actsOf(sided(cost, 1, -1), Told.rules(8), "");
        }
    }

    private static void sideRests() {
        for (int rows = 0; rows <= 12; rows++) {
            RowPresolve low = Told.columns(0, 9, 1);
            RowPresolve high = Told.columns(0, 9, -1);
            for (int row = 0; row < rows; row++) {
                low.row(row % 2, 0);
                high.row(row % 2, 0);
            }
            low.shrink(Told.rules(1, 8), 1);
            high.shrink(Told.rules(8), 1);
            Check.rests(low, 0, 0, (1 << rows) - 1);
            Check.rests(high, 0, (1 << rows) - 1, 0);
        }
    }

    private static void putInRows() {
        for (int terms = 0; terms <= 12; terms++) {
            for (int kind = 0; kind <= 1; kind++) {
                RowPresolve x = Told.alike(12, -9, 9);
                x.row(kind, 0);
                for (int i = 0; i < terms; i++) {
                    x.term(0, 11 - i, 1);
                }
                Check.actsOf(x, Told.rules(9), kind == 1 && terms == 2 ? "9 0 11 5 0" : "");
            }
        }
        RowPresolve fixed = Told.columns(-9, 9, 0, 4, 4, 0, -9, 9, 0);
        Told.equal(fixed, 0, 1, 1, 1);
        Check.actsOf(fixed, Told.rules(6, 9), "6 -1 1 4 4; 9 0 0 2 5; 9 0 2 5 -4");
    }

    private static void putInWhich() {
        int[][] cases = {{1, 1, 1}, {-1, -1, 1}, {2, 1, 1}, {2, -1, 1}, {1, 2, 0}, {-1, 2, 0}, {1, -2, 0},
            {1, 1000, 0}, {1000, 1, 1}, {2, 2, -1}, {2, -3, -1}};
        for (int[] c : cases) {
            RowPresolve x = Told.alike(12, -9, 9);
            x.row(1, 0);
            x.term(0, 3, c[0]);
            x.term(0, 10, c[1]);
            x.shrink(Told.rules(9), 1);
            Check.is("first of " + c[0] + ", " + c[1], c[2] == 0 ? 2 : 0, x.state(3));
            Check.is("second of " + c[0] + ", " + c[1], c[2] == 1 ? 2 : 0, x.state(10));
            Check.yes("acts", c[2] >= 0 == x.acts() > 0);
        }
    }

    /** By s x + b y = 0, in another row with the coefficients c of y and d of x. */
    private static RowPresolve coefficients(int s, int b, int c, int d) {
        RowPresolve x = Told.alike(2, -9, 9);
        Told.equal(x, 0, b, s);
        Told.atMost(x, 5, c, d);
        return x;
    }

    private static void putInCoefficients() {
        for (int s = -1; s <= 1; s += 2) {
            for (int b : new int[] {-1000, 1000}) {
                for (int d : new int[] {-1000, 1000}) {
                    for (int c = -1; c <= 1; c++) {
                        int made = c - s * b * d;
                        boolean within = made >= -1000000 && made <= 1000000;
                        RowPresolve x = coefficients(s, b, c, d);
                        x.shrink(Told.rules(9), 1);
                        Check.is("state at " + made, within ? 2 : 0, x.state(1));
                        Check.rowIs(x, 1, 0, 5, within ? made : c, within ? 0 : d);
                        Check.is("kind of the row", within ? -1 : 1, x.kind(0));
                        Check.yes("acts", within == x.acts() > 0);
                    }
                }
            }
        }
        RowPresolve last = Told.alike(2, -9, 9);
        Told.equal(last, 0, 1000, 1);
        for (int row = 1; row < 12; row++) {
            Told.atMost(last, 5, row == 11 ? -1 : 0, 1000);
        }
        Check.actsOf(last, Told.rules(9), "");
        Check.rowIs(last, 1, 0, 5, 0, 1000);
        RowPresolve first = Told.alike(2, -9, 9);
        Told.atMost(first, 5, -1, 1000);
        Told.equal(first, 0, 1000, 1);
        Check.actsOf(first, Told.rules(9), "");
        for (int d = -1; d <= 1; d++) {
            for (int b = -1; b <= 1; b += 2) {
                RowPresolve later = Told.alike(3, -9, 9);
                Told.equal(later, 0, 1000, -1);
                Told.equal(later, 0, b, 0, 1);
                Told.atMost(later, 5, 0, 1000, d);
                Told.atMost(later, 5, 0, 0, 2);
                later.shrink(Told.rules(9), 1);
                int made = 1000000 - b * d;
                Check.is("state at " + made, made <= 1000000 ? 2 : 0, later.state(2));
                Check.is("coefficient", made <= 1000000 ? made : 1000000, later.coefficient(2, 0));
            }
        }
        RowPresolve gone = Told.alike(2, -9, 9);
        Told.equal(gone, 0, 1000, 1);
        Told.atMost(gone, 1000000, -1, 1000);
        gone.shrink(Told.rules(4, 9), 1);
        Check.is("a row that is gone does not count", 2, gone.state(1));
    }

    private static void putInCosts() {
        for (int s = -1; s <= 1; s += 2) {
            for (int b : new int[] {-1000, 1000}) {
                for (int cost : new int[] {-1000, 1000}) {
                    for (int other = -1; other <= 1; other++) {
                        int made = other - s * b * cost;
                        boolean within = made >= -1000000 && made <= 1000000;
                        RowPresolve x = Told.columns(-9, 9, other, -10000, 10000, cost);
                        Told.equal(x, 0, b, s);
                        x.shrink(Told.rules(9), 1);
                        Check.is("state at " + made, within ? 2 : 0, x.state(1));
                        Check.is("cost", within ? made : other, x.cost(0));
                        Check.is("cost of the other", within ? 0 : cost, x.cost(1));
                        Check.yes("acts", within || x.acts() == 0);
                    }
                }
            }
        }
    }

    /**
     * Ten fixed columns make x + y = R of R = -100000000 and rather more, which no point holds: where the limit lets
     * the rule go on, y can't be narrowed so far, and it is IMPOSSIBLE.
     */
    private static RowPresolve farRight(int s, int right, int d, int otherRight) {
        RowPresolve x = Told.alike(2, -10000, 10000);
        for (int i = 2; i < 12; i++) {
            x.column(10000, 10000, 0);
        }
        x.row(1, right);
        x.term(0, 0, 1);
        x.term(0, 1, s);
        for (int i = 2; i < 12; i++) {
            x.term(0, i, 1000);
        }
        x.row(0, otherRight);
        x.term(1, 1, d);
        x.row(0, 0);
        return x;
    }

    private static void putInRights() {
        for (int s = -1; s <= 1; s += 2) {
            for (int d : new int[] {-1000, 1000}) {
                for (int otherRight = -1; otherRight <= 1; otherRight++) {
                    long made = otherRight + 100000000L * s * d;
                    boolean within = made >= -100000000000L && made <= 100000000000L;
                    RowPresolve x = farRight(s, 0, d, otherRight);
                    Check.is("shrink at " + made, within ? 0 : 2, x.shrink(Told.rules(6, 9), 50));
                    Check.is("certificate", within ? 1 : -1, x.certificate());
                    Check.is("right of the row", -100000000, x.right(0));
                    Check.is("right of the other", otherRight, x.right(1));
                    Check.is("state", 0, x.state(1));
                    Check.is("acts", 10, x.acts());
                }
            }
        }
        RowPresolve most = farRight(1, -1000000, 1000, 1000000);
        Check.is("as far as may be", 2, most.shrink(Told.rules(6, 9), 50));
        RowPresolve less = farRight(1, 1000000, 1000, -1000000);
        Check.is("nearer", 0, less.shrink(Told.rules(6, 9), 50));
    }

    /**
     * s R times the COST of x beyond 10^15 can't come about: at each point between the small's bounds the SUM of a row
     * is within 121000000 of its RIGHT, as it was at first. So for x and b y that R is at most 121000000 + 10000 +
     * 10000 b, and where b is great the COST of y, which would be beyond its own limit, keeps that of x small. The
     * greatest that the numbers let come about, some 10^14, is within.
     */
    private static void putInShifts() {
        RowPresolve x = Told.columns(-10000, 10000, 0, -10000, 10000, 0, -10000, 10000, 1000);
        for (int i = 3; i < 12; i++) {
            x.column(10000, 10000, 0);
        }
        Told.equal(x, 0, 0, 1000, 1);
        Told.equal(x, -1000000, 1, 1);
        for (int i = 3; i < 12; i++) {
            x.term(1, i, 1000);
        }
        Check.is("it goes on, and is impossible", 0, x.shrink(Told.rules(6, 9), 50));
        Check.is("cost of x", -1000000, x.cost(1));
        Check.is("R", -91000000, x.right(1));
        Check.is("certificate", 2 + 1, x.certificate());
    }

    private static void putInOrder() {
        RowPresolve above = Told.columns(-50, 50, 0, -4, 7, 0);
        Told.equal(above, 0, 1, -1);
        Check.actsOf(above, Told.rules(9), "9 0 0 1 -4; 9 0 0 2 7; 9 0 1 5 0");
        RowPresolve below = Told.columns(-50, 50, 0, -4, 7, 0);
        Told.equal(below, 0, 1, 1);
        Check.actsOf(below, Told.rules(9), "9 0 0 2 4; 9 0 0 1 -7; 9 0 1 5 0");
        RowPresolve none = Told.columns(-4, 7, 0, -4, 7, 0);
        Told.equal(none, 0, 1, -1);
        Check.actsOf(none, Told.rules(9), "9 0 1 5 0");
        RowPresolve low = Told.columns(-50, 50, 0, 51, 60, 0);
        Told.equal(low, 0, 1, -1);
        Check.impossible(low, Told.rules(9), 1);
        Check.acts(low, "");
        RowPresolve high = Told.columns(-50, 50, 0, -60, -51, 0);
        Told.equal(high, 0, 1, -1);
        Check.impossible(high, Told.rules(9), 1);
        Check.is("it ends before it is put in", 0, high.state(1));
        Check.is("the row stays", 1, high.kind(0));
        RowPresolve just = Told.columns(-50, 50, 0, 50, 60, 0);
        Told.equal(just, 0, 1, -1);
        Check.actsOf(just, Told.rules(9), "9 0 0 1 50; 9 0 1 5 0");
        RowPresolve between = Told.columns(-50, 50, 0, 1, 2, 0);
        Told.equal(between, 0, 3, -1);
        Check.impossible(between, Told.rules(9), 1);
        Check.acts(between, "9 0 0 1 1");
    }

    /** 3 y - x = R, or -3 y + x = R: x is 3 y and so many. */
    private static void putInAbove() {
        int[][] cases = {{0, -6, 6, -2, 2}, {0, -7, 7, -2, 2}, {0, -5, 5, -1, 1}, {1, -6, 6, -1, 2}, {1, -7, 5, -2, 2},
            {-1, -6, 6, -2, 1}, {30, -6, 6, 8, 12}, {-30, -6, 6, -12, -8}};
        for (int[] c : cases) {
            for (int s = -1; s <= 1; s += 2) {
                RowPresolve x = Told.columns(-50, 50, 0, c[1], c[2], 0);
                Told.equal(x, -s * c[0], -s * 3, s);
                x.shrink(Told.rules(9), 1);
                Check.columnIs(x, 0, 0, c[3], c[4], 0);
                Check.is("s R", -c[0], x.act(x.acts() - 1, 4));
            }
        }
    }

    /** x is -3 y and so many. */
    private static void putInBelow() {
        int[][] cases = {{0, -6, 6, -2, 2}, {0, -7, 7, -2, 2}, {0, -5, 5, -1, 1}, {1, -6, 6, -1, 2}, {1, -7, 5, -1, 2},
            {-1, -6, 6, -2, 1}, {30, -6, 6, 8, 12}, {-30, -6, 6, -12, -8}};
        for (int[] c : cases) {
            for (int s = -1; s <= 1; s += 2) {
                RowPresolve x = Told.columns(-50, 50, 0, c[1], c[2], 0);
                Told.equal(x, s * c[0], s * 3, s);
                x.shrink(Told.rules(9), 1);
                Check.columnIs(x, 0, 0, c[3], c[4], 0);
                Check.is("s R", c[0], x.act(x.acts() - 1, 4));
            }
        }
    }

    private static void putInRests() {
        for (int b = -1; b <= 1; b += 2) {
            RowPresolve x = Told.alike(2, -50, 50);
            Told.atMost(x, 4, 0, 1);
            Told.atMost(x, 3, 0, -1);
            Told.equal(x, 0, b, 1);
            x.shrink(Told.rules(3, 9), 1);
            Check.columnIs(x, 0, 0, b < 0 ? -3 : -4, b < 0 ? 4 : 3, 0);
            Check.rests(x, 0, b < 0 ? 2 + 4 : 1 + 4, b < 0 ? 1 + 4 : 2 + 4);
        }
        RowPresolve high = Told.columns(0, 9, 0, 0, 50, 0);
        Told.atMost(high, 8, 1);
        Told.atMost(high, -1, -1);
        Told.atMost(high, -9, 0, -1);
        Told.atMost(high, 20, 0, 1);
        Told.equal(high, 0, 1, -1);
        Check.impossible(high, Told.rules(3, 9), 1 + 4 + 16);
    }

    private static void putInOthers() {
        RowPresolve x = Told.alike(3, -9, 9);
        Told.atMost(x, 10, 0, 2);
        Told.equal(x, 3, 1, 1);
        Told.atMost(x, 10, 2, 2);
        Told.equal(x, 10, 5, -1, 2);
        Told.atMost(x, 10, 5, 0, 1);
        Told.atMost(x, 999, 1, 1);
        x.shrink(Told.rules(4, 9), 1);
        Check.rowIs(x, 0, 0, 4, -2, 0, 0);
        Check.rowIs(x, 2, 0, 4, 0, 0, 0);
        Check.rowIs(x, 3, 1, 13, 6, 0, 2);
        Check.rowIs(x, 4, 0, 10, 5, 0, 1);
        Check.rowIs(x, 5, -1, 999, 0, 0, 0);
        int[] rests = {1 + 2, 2, 4 + 2, 8 + 2, 16, 32};
        for (int row = 0; row < 6; row++) {
            Check.is("rest of row " + row, rests[row], x.rest(0, row));
        }
    }

    /** w is 1000 z - 10^7, so that u is 10^10 - 10^6 z: numbers beyond those of an int. */
    static RowPresolve farNumbers() {
        RowPresolve x = Told.columns(-10000, 10000, 0, -10000, 10000, 1000, -10000, 10000, 2, 10000, 10000, 0);
        Told.equal(x, 0, 1000, -1, 0, -1000);
        Told.equal(x, 0, 0, 1000, 1);
        Told.atMost(x, 10005, 0, 1000, 0, 1);
        Told.atMost(x, 10005, 0, -1000, 0, 1);
        return x;
    }

    private static void putInBeyondInt() {
        RowPresolve x = farNumbers();
        x.shrink(Told.rules(6, 9), 1);
        Check.acts(x, "6 -1 3 4 10000; 9 0 0 1 9990; 9 0 1 5 -10000000; 9 1 0 1 10000; 9 1 2 5 10000000000");
        Check.rowIs(x, 0, -1, 10000000, 0, 0, 0, 0);
        Check.rowIs(x, 1, -1, 10000000000L, 0, 0, 0, 0);
        Check.rowIs(x, 2, 0, 10000000005L, 1000000, 0, 0, 0);
        Check.rowIs(x, 3, 0, -9999999995L, -1000000, 0, 0, 0);
        Check.columnIs(x, 0, 0, 10000, 10000, -1000000);
        Check.is("offset", 10000000000L, x.offset());
        Check.is("states", 2 + 2, x.state(1) + x.state(2));
        x.put(0, 10000);
        Check.is("back", 1, x.back());
        Check.is("value", 0, x.value());
        Check.is("best", 1, x.best(true));
        Check.is("its value", 0, x.bestValue());
        Check.is("all rules", 2, x.shrink(Told.rules(4, 6, 9), 2));
        Check.is("span", 10000000005L, x.act(5, 4));
        Check.is("span", -9999999995L, x.act(6, 4));
        x.shrink(Told.rules(2, 6, 9), 2);
        Check.is("shared", 10000, x.act(5, 4));
        Check.is("shared", -10000, x.act(6, 4));
        x.shrink(Told.rules(3, 6, 9), 2);
        Check.is("single", 10000000005L, x.act(5, 4));
        x.shrink(Told.rules(5, 6, 9), 50);
        Check.is("tight", -1, x.certificate());
        x.shrink(Told.rules(6, 9), 50);
        Check.is("fixed", 5, x.right(2));
        Check.is("offset", 0, x.offset());
    }

    private static void freeOnlyTerm() {
        int[][] cases = {{1, 2}, {-1, 2}, {2, 0}, {-2, 0}, {1000, 0}};
        for (int[] c : cases) {
            RowPresolve x = Told.columns(0, 1, 0, -9, 9, 0);
            Told.equal(x, 0, 2, c[0]);
            Told.atMost(x, 5, 1);
            x.shrink(Told.rules(11), 1);
            Check.is("state with " + c[0], c[1], x.state(1));
        }
        RowPresolve second = Told.columns(0, 1, 0, -9, 9, 0);
        Told.equal(second, 0, 2, 1);
        Told.atMost(second, 500, 1, 1);
        Check.actsOf(second, Told.rules(11), "");
        second.shrink(Told.rules(4, 11), 1);
        Check.acts(second, "4 1 -1 0 500; 11 0 1 5 0");
        RowPresolve before = Told.columns(0, 1, 0, -9, 9, 0);
        Told.atMost(before, 500, 1, 1);
        Told.equal(before, 0, 2, 1);
        Check.actsOf(before, Told.rules(11), "");
        RowPresolve none = Told.columns(0, 1, 0);
        Told.equal(none, 0);
        Check.actsOf(none, Told.rules(11), "");
        RowPresolve last = Told.columns(0, 1, 0, -9, 9, 0);
        for (int row = 0; row < 11; row++) {
            Told.atMost(last, 5, 1);
        }
        Told.equal(last, 0, 2, 1);
        Check.actsOf(last, Told.rules(11), "11 11 1 5 0");
    }

    private static void freeRows() {
        for (int terms = 1; terms <= 12; terms++) {
            for (int kind = 0; kind <= 1; kind++) {
                RowPresolve x = Told.alike(11, 0, 1);
                x.column(-99, 99, 0);
                x.row(kind, 7);
                for (int i = 0; i < terms; i++) {
                    x.term(0, 11 - i, i == 0 ? 1 : 2);
                }
                Check.actsOf(x, Told.rules(11), kind == 1 && terms >= 2 ? "11 0 11 5 7" : "");
            }
        }
    }

    /** The others are 0 .. 4 times 2 and 0 .. 3 times -3: from -9 to 8; R is 6. */
    private static void freeWithin() {
        int[][] cases = {{1, -2, 15, 2}, {1, -1, 15, 0}, {1, -2, 14, 0}, {1, -3, 16, 2}, {-1, -15, 2, 2},
            {-1, -14, 2, 0}, {-1, -15, 1, 0}, {-1, -16, 3, 2}};
        for (int[] c : cases) {
            RowPresolve x = Told.columns(0, 4, 0, 0, 3, 0, c[1], c[2], 0);
            Told.equal(x, 6, 2, -3, c[0]);
            x.shrink(Told.rules(11), 1);
            Check.is("state at " + c[1] + " .. " + c[2], c[3], x.state(2));
            Check.columnIs(x, 2, c[3], c[1], c[2], 0);
        }
        RowPresolve most = Told.columns(-10000, 10000, 0, -10000, 10000, 0);
        Told.equal(most, 0, 2, 1);
        Told.atMost(most, 5, 1);
        Check.actsOf(most, Told.rules(11), "");
        most.term(0, 0, 1);
        Check.actsOf(most, Told.rules(11), "11 0 1 5 0");
    }

    private static void freeCosts() {
        for (int s = -1; s <= 1; s += 2) {
            for (int b : new int[] {-1000, 1000}) {
                for (int cost : new int[] {-1000, 1000}) {
                    for (int other = -1; other <= 1; other++) {
                        int made = other - s * b * cost;
                        boolean within = made >= -1000000 && made <= 1000000;
                        RowPresolve x = Told.columns(0, 1, 1, 0, 1, other, -10000, 10000, cost);
                        Told.equal(x, 0, 3, b, s);
                        x.shrink(Told.rules(11), 1);
                        Check.is("state at " + made, within ? 2 : 0, x.state(2));
                        Check.is("cost", within ? made : other, x.cost(1));
                        Check.is("cost of the first", within ? 1 - s * 3 * cost : 1, x.cost(0));
                        Check.is("offset", 0, x.offset());
                        Check.is("acts", within ? 1 : 0, x.acts());
                    }
                }
            }
        }
    }

    /**
     * Beyond 10^15 can't come about: R is within 10000 of the sum of the b y, and the limit of their COSTS keeps each
     * b times the COST of x within 2000000, so s R times the COST of x is within some 2 times 10^11.
     */
    private static void freeShifts() {
        for (int s = -1; s <= 1; s += 2) {
            RowPresolve x = Told.columns(995, 1005, 0, -5000, 5000, 1000);
            Told.equal(x, 1000000, 1000, s);
            Told.atMost(x, 1000, 1);
            Check.actsOf(x, Told.rules(11), "11 0 1 5 " + s * 1000000);
            Check.is("offset", s * 1000000000L, x.offset());
            Check.is("cost", -s * 1000000, x.cost(0));
        }
    }

    private static void freeBack() {
        for (int s = -1; s <= 1; s += 2) {
            RowPresolve x = Told.columns(-2, 2, 0, -2, 2, 0, -100, 100, 0);
            Told.equal(x, 7, 3, -5, s);
            Told.atMost(x, 0, 1, 1);
            x.shrink(Told.rules(11), 1);
            for (int first = -2; first <= 2; first++) {
                for (int second = -2; second <= 2; second++) {
                    x.put(0, first);
                    x.put(1, second);
                    Check.is("back", first + second <= 0 ? 1 : 0, x.back());
                    Check.is("at", s * (7 - 3 * first + 5 * second), x.at(2));
                }
            }
        }
    }

    private static void freeDone() {
        for (int s = -1; s <= 1; s += 2) {
            RowPresolve x = new RowPresolve();
            for (int i = 0; i < 11; i++) {
                x.column(0, 1, i);
            }
            x.column(-10000, 10000, 1000);
            x.row(1, 9000);
            for (int i = 0; i < 11; i++) {
                x.term(0, i, i - 5);
            }
            x.term(0, 11, s);
            x.row(0, 3);
            x.term(1, 0, 1);
            Check.actsOf(x, Told.rules(11), "11 0 11 5 " + s * 9000);
            for (int i = 0; i < 11; i++) {
                Check.is("cost " + i, i - s * (i - 5) * 1000, x.cost(i));
            }
            Check.is("offset", s * 9000000L, x.offset());
            Check.gone(x, 0);
            Check.columnIs(x, 11, 2, -10000, 10000, 0);
            Check.is("another row's rest", 2, x.rest(0, 1));
            for (int i = 0; i < 11; i++) {
                x.put(i, 1);
            }
            Check.is("back", 1, x.back());
            Check.is("at", s * 9000, x.at(11));
        }
    }
}
