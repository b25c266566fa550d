/** Term 2 but for its rules, and term 3: the small, rests, narrowing, rounds, and what is told. */
final class TermEdges {
    private TermEdges() {
    }

    static void run() {
        small();
        narrowing();
        rounds();
        told();
    }

    private static void small() {
        Edges.says("Term 2", "THE SMALL begins as the whole is, with an OFFSET of 0.", TermEdges::asTheWhole);
        Edges.says("Term 2", "Of its columns each is THERE (at first), FIXED, or PUT IN; of its rows each is THERE "
                + "(at first) or GONE.", TermEdges::thereAtFirst);
        Edges.says("Term 2", "TERMS are those of columns that are THERE.", TermEdges::termsThere);
        Edges.says("Term 2", "Of a row that is GONE, and of a column that is not THERE, nothing is seen by the rules",
                TermEdges::nothingSeen);
        Edges.says("Term 2", "LEAST and GREATEST of a row: the least and the greatest that its SUM can be between the "
                + "columns' bounds", TermEdges::leastAndGreatest);
        Edges.says("Term 2", "it COMES FROM those bounds at which it is so (of each TERM one)", TermEdges::comesFrom);
        Edges.says("Term 2", "DOWN and UP: quotients rounded to the whole number that is not above, not below.",
                TermEdges::downAndUp);
        Edges.says("Term 2", "A REST is a set of rows of the whole: of each bound none at first, of each row itself.",
                TermEdges::restsAtFirst);
    }

    private static void narrowing() {
        Edges.says("Term 2", "TO NARROW a LOW to v by a REST: nothing, if v is not above it", TermEdges::lowStays);
        Edges.says("Term 2", "IMPOSSIBLE, if v is above the HIGH, resting on the REST and on that of the HIGH",
                TermEdges::lowAboveHigh);
        Edges.says("Term 2", "else it is v, and has that REST (alone): an ACT.", TermEdges::restAlone);
        Edges.says("Term 2", "A HIGH likewise, the other way round.", TermEdges::highLikewise);
        Edges.says("Term 2", "IMPOSSIBLE: it rests on what is told; all ends at once, the small stays as it is then.",
                TermEdges::allEnds);
    }

    private static void rounds() {
        Edges.says("Term 2", "A ROUND does the RULES that are asked for in the order of their numbers",
                TermEdges::orderOfRules);
        Edges.says("Term 2", "each for all rows (6, 8, 11: all columns) that are THERE when they are come to, in "
                + "their order", TermEdges::thereWhenComeTo);
        Edges.says("Term 2", "all that is done is seen at once by what follows", TermEdges::seenAtOnce);
        Edges.says("Term 2", "Rounds are done up to one without an ACT (which counts), or as many as are told.",
                TermEdges::lastRound);
    }

    private static void told() {
        Edges.says("Term 3", "A POINT of the small has a number for each column that is THERE, from its LOW to its "
                + "HIGH", TermEdges::pointOfSmall);
        Edges.says("Term 3", "it FITS when all rows that are THERE HOLD", TermEdges::rowsThere);
        Edges.says("Term 3", "its VALUE is OFFSET and the sum of the numbers times the COSTS", TermEdges::withOffset);
        Edges.says("Term 3", "TURNED BACK it has also the numbers of FIXED columns, and those of columns that were PUT "
                + "IN, the last one first.", TermEdges::turnedBack);
        Edges.says("Term 3", "columns that are THERE belong together when a row that is THERE has TERMS of both, and "
                + "so on", TermEdges::together);
        Edges.says("Term 3", "the greatest amount of the coefficient first (of alike ones in their order)",
                TermEdges::cliqueOrder);
        Edges.says("Term 3", "the longest beginning of this row of TERMS, two at least, whose last two amounts "
                + "together are above R - LEAST", TermEdges::cliqueLength);
        Edges.says("Term 3", "of its TERMS whose columns have LOW 0 and HIGH 1", TermEdges::cliqueColumns);
        Edges.says("Term 3", "At most one of these columns is at 1 where its coefficient is above 0, at 0 where it is "
                + "below 0", TermEdges::atMostOne);
        Edges.says("Term 3", "of all POINTS that FIT the one of the least VALUE, of these the first by column 0, 1, .. "
                + "(the lesser number first)", TermEdges::firstOfBest);
        Edges.says("Term 3", "(Without columns there is one POINT.)", TermEdges::withoutColumns);
    }

    private static void asTheWhole() {
        RowPresolve x = Told.columns(-10000, 10000, 1000, 7, 7, -1000);
        Told.atMost(x, -1000000, 1000, -1000);
        Told.equal(x, 1000000, 0, 1);
        x.shrink(0, 50);
        Check.columnIs(x, 0, 0, -10000, 10000, 1000);
        Check.columnIs(x, 1, 0, 7, 7, -1000);
        Check.rowIs(x, 0, 0, -1000000, 1000, -1000);
        Check.rowIs(x, 1, 1, 1000000, 0, 1);
        Check.is("offset", 0, x.offset());
        Check.is("acts", 0, x.acts());
    }

    private static void thereAtFirst() {
        for (int count = 0; count <= 12; count++) {
            RowPresolve x = Told.alike(count, 1, 1);
            for (int row = 0; row < count; row++) {
                x.row(row % 2, 0);
            }
            x.shrink(0, 1);
            for (int i = 0; i < count; i++) {
                Check.is("state(" + i + ")", 0, x.state(i));
                Check.is("kind(" + i + ")", i % 2, x.kind(i));
            }
            x.shrink(Told.rules(1, 6), 1);
            for (int i = 0; i < count; i++) {
                Check.is("state(" + i + ")", 1, x.state(i));
                Check.is("kind(" + i + ")", -1, x.kind(i));
            }
        }
    }

    /** Column 0 is 3 .. 3, its low by row 0, its high by row 1: only one of both is where a least comes from. */
    private static void comesFrom() {
        int[][] cases = {{0, 2, 1, 1 + 4}, {1, 2, 1, 1 + 4}, {1, 4, 1, 2 + 4}, {0, -4, -1, 2 + 4}, {1, -4, -1, 2 + 4},
            {1, -2, -1, 1 + 4}};
        for (int[] c : cases) {
            RowPresolve x = Told.columns(0, 9, 0, 0, 0, 0);
            Told.atMost(x, -3, -1);
            Told.atMost(x, 3, 1);
            Told.row(x, c[0], c[1], c[2], 1);
            Check.impossible(x, Told.rules(3, 4), c[3]);
        }
    }

    /** With its first column fixed the row has one term, then none. */
    private static void termsThere() {
        RowPresolve one = Told.columns(2, 2, 0, 0, 9, 0);
        Told.atMost(one, 9, 3, 1);
        one.shrink(Told.rules(3, 6), 50);
        Check.acts(one, "6 -1 0 4 2; 3 0 1 2 3; 3 0 -1 0 3");
        RowPresolve none = Told.columns(2, 2, 0, 3, 3, 0);
        Told.atMost(none, 9, 3, 1);
        none.shrink(Told.rules(1, 6), 50);
        Check.acts(none, "6 -1 0 4 2; 6 -1 1 4 3; 1 0 -1 0 0");
    }

    private static void nothingSeen() {
        RowPresolve x = Told.columns(0, 3, 1, 5, 5, 1);
        Told.equal(x, 0);
        Told.atMost(x, 99, -1, 1);
        x.shrink(Told.rules(4), 50);
        Check.acts(x, "4 0 -1 0 0; 4 1 -1 0 99");
        x.shrink(Told.rules(4, 6, 8), 50);
        Check.acts(x, "4 0 -1 0 0; 4 1 -1 0 99; 6 -1 1 4 5; 8 -1 0 2 0; 6 -1 0 4 0");
        Check.is("right of a row that is gone", 99, x.right(1));
        Check.is("rest of a row that is gone", 2, x.rest(0, 1));
        x.shrink(Told.rules(6), 50);
        Check.acts(x, "6 -1 1 4 5");
    }

    /** Twelve columns at the ends of what may be told. */
    private static void leastAndGreatest() {
        RowPresolve high = Told.alike(12, 10000, 10000);
        RowPresolve low = Told.alike(12, -10000, -10000);
        for (RowPresolve x : new RowPresolve[] {high, low}) {
            x.row(0, 1000000);
            for (int i = 0; i < 12; i++) {
                x.term(0, i, 1000);
            }
        }
        Check.is("least is 120000000", 0, high.shrink(Told.rules(4), 1));
        Check.is("greatest is -120000000", 1, low.shrink(Told.rules(4), 1));
        Check.gone(low, 0);
        for (int right = -7; right <= -5; right++) {
            RowPresolve x = Told.columns(-1, 2, 0, -3, 4, 0);
            Told.atMost(x, right, 2, -1);
            int done = x.shrink(Told.rules(4), 1);
            Check.is("least is -6, right " + right, right < -6 ? 0 : 1, done);
            Check.is("acts", right == -6 ? 3 : 0, x.acts());
        }
        for (int right = 6; right <= 8; right++) {
            RowPresolve x = Told.columns(-1, 2, 0, -3, 4, 0);
            Told.atMost(x, right, 2, -1);
            x.shrink(Told.rules(4), 1);
            Check.is("greatest is 7, right " + right, right < 7 ? 0 : 1, x.acts());
        }
    }

    private static void downAndUp() {
        int[][] down = {{7, 3, 2}, {6, 3, 2}, {5, 3, 1}, {-5, 3, -2}, {-6, 3, -2}, {-7, 3, -3}, {0, 3, 0},
            {999999, 1000, 999}, {-999999, 1000, -1000}, {1000000, 1000, 1000}, {-1000000, 1000, -1000}};
        for (int[] d : down) {
            RowPresolve x = Told.alike(1, -10000, 10000);
            Told.atMost(x, d[0], d[1]);
            x.shrink(Told.rules(3), 1);
            Check.columnIs(x, 0, 0, -10000, d[2], 0);
        }
        int[][] up = {{7, -3, -2}, {6, -3, -2}, {5, -3, -1}, {-5, -3, 2}, {-6, -3, 2}, {-7, -3, 3}, {0, -3, 0},
            {999999, -1000, -999}, {-999999, -1000, 1000}, {1000000, -1000, -1000}, {-1000000, -1000, 1000}};
        for (int[] u : up) {
            RowPresolve x = Told.alike(1, -10000, 10000);
            Told.atMost(x, u[0], u[1]);
            x.shrink(Told.rules(3), 1);
            Check.columnIs(x, 0, 0, u[2], 10000, 0);
        }
    }

    private static void restsAtFirst() {
        RowPresolve x = Told.alike(12, 0, 9);
        for (int i = 0; i < 12; i++) {
            x.row(0, 0);
            x.term(i, i, 1);
        }
        x.shrink(0, 50);
        for (int i = 0; i < 12; i++) {
            Check.is("rest of row " + i, 1 << i, x.rest(0, i));
            Check.rests(x, i, 0, 0);
        }
        Check.is("the last row", 2048, x.rest(0, 11));
    }

    private static void lowStays() {
        for (int v = -6; v <= -5; v++) {
            RowPresolve x = Told.alike(1, -5, 5);
            Told.atMost(x, -v, -1);
            x.shrink(Told.rules(3), 1);
            Check.acts(x, "3 0 -1 0 " + -v);
            Check.columnIs(x, 0, 0, -5, 5, 0);
            Check.rests(x, 0, 0, 0);
        }
        RowPresolve twice = Told.alike(1, -5, 5);
        Told.atMost(twice, -2, -1);
        Told.atMost(twice, -2, -1);
        twice.shrink(Told.rules(3), 1);
        Check.rests(twice, 0, 1, 0);
        Check.is("one of them narrows", 3, twice.acts());
    }

    /** Row 0 makes the high 3 first, so that it has a rest. */
    private static void lowAboveHigh() {
        for (int v = 2; v <= 4; v++) {
            RowPresolve x = Told.alike(2, -5, 5);
            Told.atMost(x, 3, 1);
            Told.atMost(x, 9, 0, 1);
            Told.atMost(x, -v, -1);
            int done = x.shrink(Told.rules(3), 1);
            Check.is("low to " + v, v > 3 ? 0 : 1, done);
            Check.is("certificate", v > 3 ? 1 + 4 : -1, x.certificate());
            Check.columnIs(x, 0, 0, v > 3 ? -5 : v, 3, 0);
        }
        RowPresolve told = Told.alike(1, -5, 5);
        Told.atMost(told, -6, -1);
        Check.is("above the high that was told", 0, told.shrink(Told.rules(3), 1));
        Check.is("it rests on the row alone", 1, told.certificate());
    }

    private static void restAlone() {
        RowPresolve low = Told.alike(1, -5, 5);
        Told.atMost(low, 5, -1);
        Told.atMost(low, 4, -1);
        Told.atMost(low, 3, -1);
        low.shrink(Told.rules(3), 1);
        Check.acts(low, "3 0 -1 0 5; 3 1 0 1 -4; 3 1 -1 0 4; 3 2 0 1 -3; 3 2 -1 0 3");
        Check.rests(low, 0, 4, 0);
        RowPresolve high = Told.alike(1, -5, 5);
        Told.atMost(high, 4, 1);
        Told.atMost(high, 3, 1);
        high.shrink(Told.rules(3), 1);
        Check.acts(high, "3 0 0 2 4; 3 0 -1 0 4; 3 1 0 2 3; 3 1 -1 0 3");
        Check.rests(high, 0, 0, 2);
        RowPresolve both = Told.alike(1, -5, 5);
        Told.equal(both, 5, 1);
        both.shrink(Told.rules(3), 1);
        Check.acts(both, "3 0 0 1 5; 3 0 -1 0 5");
        Check.rests(both, 0, 1, 0);
    }

    private static void highLikewise() {
        for (int v = 5; v <= 6; v++) {
            RowPresolve x = Told.alike(1, -5, 5);
            Told.atMost(x, v, 1);
            x.shrink(Told.rules(3), 1);
            Check.acts(x, "3 0 -1 0 " + v);
            Check.rests(x, 0, 0, 0);
        }
        for (int v = -4; v <= -2; v++) {
            RowPresolve x = Told.alike(2, -5, 5);
            Told.atMost(x, 3, -1);
            Told.atMost(x, 9, 0, 1);
            Told.atMost(x, v, 1);
            int done = x.shrink(Told.rules(3), 1);
            Check.is("high to " + v, v < -3 ? 0 : 1, done);
            Check.is("certificate", v < -3 ? 1 + 4 : -1, x.certificate());
            Check.columnIs(x, 0, 0, -3, v < -3 ? 5 : v, 0);
        }
    }

    /** Row 1 ends all: what row 0 did stays, row 2 and later rules are not come to. */
    private static void allEnds() {
        RowPresolve x = Told.columns(0, 9, 1, 4, 4, 1);
        Told.atMost(x, 5, 1);
        Told.atMost(x, -6, -1);
        Told.atMost(x, 3, 1);
        Check.is("shrink", 0, x.shrink(2047, 50));
        Check.acts(x, "3 0 0 2 5; 3 0 -1 0 5");
        Check.columnIs(x, 0, 0, 0, 5, 1);
        Check.columnIs(x, 1, 0, 4, 4, 1);
        Check.gone(x, 0);
        Check.rowIs(x, 1, 0, -6, -1, 0);
        Check.rowIs(x, 2, 0, 3, 1, 0);
        Check.is("certificate", 3, x.certificate());
        Check.is("offset", 0, x.offset());
        RowPresolve within = Told.alike(2, 0, 10);
        Told.equal(within, 9, 2);
        Told.atMost(within, 3, 0, 1);
        Check.is("between two bounds of a row", 0, within.shrink(Told.rules(5), 50));
        Check.acts(within, "5 0 0 2 4");
        Check.columnIs(within, 0, 0, 0, 4, 0);
        Check.columnIs(within, 1, 0, 0, 10, 0);
    }

    private static void orderOfRules() {
        RowPresolve x = Told.alike(1, 0, 9);
        Told.equal(x, -6, -2);
        x.shrink(Told.rules(2, 3, 6), 1);
        Check.acts(x, "2 0 -1 3 3; 3 0 0 1 3; 3 0 0 2 3; 3 0 -1 0 3; 6 -1 0 4 3");
        x.shrink(Told.rules(5, 6), 1);
        Check.acts(x, "5 0 0 1 3; 5 0 0 2 3; 6 -1 0 4 3");
        RowPresolve y = Told.columns(0, 1, 0, -9, 9, 0);
        Told.equal(y, 0, 1, 1);
        y.shrink(Told.rules(8, 9, 10, 11), 1);
        Check.acts(y, "9 0 1 5 0");
        y.shrink(Told.rules(8, 9, 10, 11), 50);
        Check.acts(y, "9 0 1 5 0; 8 -1 0 2 0");
    }

    /** Rows and columns that an earlier one of the same rule has left out are not come to. */
    private static void thereWhenComeTo() {
        RowPresolve rows = Told.alike(2, 0, 9);
        Told.atMost(rows, 5, 1, 1);
        Told.atMost(rows, 6, 1, 1);
        Told.atMost(rows, 6, 1, 1);
        rows.shrink(Told.rules(7), 1);
        Check.acts(rows, "7 1 -1 0 6; 7 2 -1 0 6");
        RowPresolve columns = Told.alike(2, -9, 9);
        Told.equal(columns, 0, 1, 1);
        columns.shrink(Told.rules(11), 1);
        Check.acts(columns, "11 0 0 5 0");
        Check.is("the second column stays", 0, columns.state(1));
        RowPresolve order = Told.alike(12, 5, 5);
        for (int i = 0; i < 12; i++) {
            order.row(0, 12 - i);
        }
        order.shrink(Told.rules(1, 6), 1);
        Check.is("acts", 24, order.acts());
        for (int i = 0; i < 12; i++) {
            Check.is("row of act " + i, i, order.act(i, 1));
            Check.is("column of act " + (12 + i), i, order.act(12 + i, 2));
        }
    }

    private static void seenAtOnce() {
        RowPresolve x = Told.alike(3, 0, 9);
        Told.atMost(x, 5, 1);
        Told.atMost(x, 0, -1, 1);
        Told.atMost(x, 0, 0, -1, 1);
        x.shrink(Told.rules(5), 1);
        Check.acts(x, "5 0 0 2 5; 5 1 1 2 5; 5 2 2 2 5");
        RowPresolve back = Told.alike(3, 0, 9);
        Told.atMost(back, 0, 0, -1, 1);
        Told.atMost(back, 0, -1, 1);
        Told.atMost(back, 5, 1);
        back.shrink(Told.rules(5), 1);
        Check.acts(back, "5 2 0 2 5");
        back.shrink(Told.rules(5), 3);
        Check.acts(back, "5 2 0 2 5; 5 1 1 2 5; 5 0 2 2 5");
    }

    /** Three rounds with an act each, then one without. */
    private static void lastRound() {
        for (int rounds = 1; rounds <= 6; rounds++) {
            RowPresolve x = Told.alike(3, 0, 9);
            Told.atMost(x, 0, 0, -1, 1);
            Told.atMost(x, 0, -1, 1);
            Told.atMost(x, 5, 1);
            Check.is("rounds of " + rounds, Math.min(rounds, 4), x.shrink(Told.rules(5), rounds));
            Check.is("acts", Math.min(rounds, 3), x.acts());
        }
        RowPresolve none = Told.alike(1, 0, 9);
        Check.is("the first round has no act", 1, none.shrink(Told.rules(5), 50));
    }

    private static void pointOfSmall() {
        RowPresolve x = Told.alike(1, 0, 9);
        Told.atMost(x, 5, 1);
        Told.atMost(x, -2, -1);
        x.shrink(Told.rules(3), 1);
        for (int number = 1; number <= 6; number++) {
            int n = number;
            boolean within = number >= 2 && number <= 5;
            String due = within ? "nothing" : "IllegalArgumentException";
            Check.is("put of " + number, due, Check.raised(() -> x.put(0, n)));
        }
        RowPresolve none = Told.alike(1, 4, 4);
        none.shrink(Told.rules(6), 1);
        Check.is("no column is there", 1, none.back());
        Check.is("one point", 1, none.best(true));
        Check.is("its number of a column that is not there", 0, none.bestAt(0));
    }

    private static void rowsThere() {
        RowPresolve x = Told.columns(0, 9, -1);
        Told.atMost(x, 4, 1);
        Told.atMost(x, 7, 1);
        Told.atMost(x, 2);
        x.shrink(Told.rules(1, 7), 1);
        x.best(true);
        Check.is("by the row that is there", 4, x.bestAt(0));
        x.shrink(Told.rules(1, 3), 1);
        x.best(true);
        Check.is("by the bounds alone", 4, x.bestAt(0));
    }

    private static void withOffset() {
        RowPresolve x = Told.columns(7, 7, 100, 0, 9, 1);
        x.shrink(Told.rules(6), 1);
        x.best(true);
        Check.is("best", 700, x.bestValue());
        RowPresolve minus = Told.columns(-10000, -10000, 1000, -10000, -10000, 1000);
        minus.shrink(Told.rules(6), 50);
        minus.best(true);
        Check.is("offset alone", -20000000, minus.bestValue());
    }

    /** Each column is twice the one before it; 11 columns are put in, the last one for the one before it, and so on. */
    private static void turnedBack() {
        RowPresolve x = Told.alike(1, -9, 9);
        for (int i = 1; i < 12; i++) {
            x.column(-10000, 10000, 1);
        }
        for (int i = 1; i < 12; i++) {
            int row = x.row(1, i);
            x.term(row, i, -1);
            x.term(row, i - 1, i % 2 == 0 ? -1 : 2);
        }
        x.shrink(Told.rules(9), 1);
        long[] due = new long[12];
        due[0] = 3;
        long value = 0;
        for (int i = 1; i < 12; i++) {
            Check.is("put in", 2, x.state(i));
            due[i] = (i % 2 == 0 ? -1 : 2) * due[i - 1] - i;
            value += due[i];
        }
        x.put(0, 3);
        Check.is("back", 1, x.back());
        for (int i = 0; i < 12; i++) {
            Check.is("at " + i, due[i], x.at(i));
        }
        Check.is("value", value, x.value());
        RowPresolve fixed = Told.alike(12, -7, -7);
        fixed.shrink(Told.rules(6), 1);
        Check.is("all are fixed", 1, fixed.back());
        Check.is("at", -7, fixed.at(11));
    }

    private static void together() {
        RowPresolve x = Told.alike(12, 0, 9);
        x.shrink(0, 1);
        Check.is("no row", 12, x.parts());
        for (int i = 0; i < 11; i++) {
            int row = x.row(0, 50);
            x.term(row, 11 - i, 1);
            x.term(row, 10 - i, -1);
            x.shrink(0, 1);
            Check.is("behind a chain of " + i, 11 - i, x.parts());
        }
        RowPresolve one = Told.alike(3, 0, 9);
        Told.atMost(one, 5, 1);
        Told.atMost(one, 5, 0, 0, 1);
        one.shrink(0, 1);
        Check.is("rows of one term", 3, one.parts());
        RowPresolve all = Told.alike(12, 0, 9);
        Told.atMost(all, 5, 1, 1, 1, 1, 1, 1, 1, 1, 1, 1, 1, 1);
        all.shrink(0, 1);
        Check.is("a row of all terms", 1, all.parts());
    }

    private static void cliqueOrder() {
        RowPresolve x = Told.alike(12, 0, 1);
        Told.atMost(x, -28, 1, -2, 3, -3, 2, -1, 4, -4, 4, -5, 5, -6);
        x.shrink(0, 1);
        int[] due = {11, 9, 10, 6, 7, 8, 2, 3, 1, 4, 0, 5};
        Check.is("least is -21, right -28: all", 12, x.clique(0));
        int[] sign = {1, 0, 1, 0, 1, 0, 1, 0, 1, 0, 1, 0};
        for (int i = 0; i < 12; i++) {
            Check.is("term " + i, due[i] * 2 + sign[due[i]], x.cliqueAt(0, i));
        }
    }

    private static void cliqueLength() {
        int[][] cases = {{10, 0}, {9, 2}, {8, 2}, {7, 3}, {6, 3}, {5, 3}, {4, 4}, {0, 4}, {-1, 4}};
        for (int[] c : cases) {
            RowPresolve x = Told.alike(4, 0, 1);
            Told.atMost(x, c[0], 2, 3, 5, 5);
            x.shrink(0, 1);
            Check.is("clique at right " + c[0], c[1], x.clique(0));
        }
        RowPresolve one = Told.alike(1, 0, 1);
        Told.atMost(one, 0, 5);
        Told.atMost(one, -9);
        one.shrink(0, 1);
        Check.is("one term", 0, one.clique(0));
        Check.is("no terms", 0, one.clique(1));
        RowPresolve least = Told.columns(0, 1, 0, 0, 1, 0, -3, 7, 0);
        Told.atMost(least, 1, 3, 2, 1);
        Told.atMost(least, 2, 3, 2, 1);
        Told.equal(least, 1, 3, 2, 1);
        least.shrink(0, 1);
        Check.is("5 is above 1 + 3", 2, least.clique(0));
        Check.is("5 is not above 2 + 3", 0, least.clique(1));
        Check.is("of kind 1", 2, least.clique(2));
    }

    private static void cliqueColumns() {
        int[][] bounds = {{0, 1, 2}, {0, 0, 0}, {1, 1, 0}, {-1, 1, 0}, {0, 2, 0}, {-1, 0, 0}, {1, 2, 0}};
        for (int[] b : bounds) {
            RowPresolve x = Told.columns(0, 1, 0, b[0], b[1], 0);
            Told.atMost(x, -9, 1, 1);
            x.shrink(0, 1);
            Check.is("clique with " + b[0] + " .. " + b[1], b[2], x.clique(0));
        }
    }

    /** Each point of three columns for which the row holds, at each right. */
    private static void atMostOne() {
        int[] a = {4, -3, 2};
        for (int right = -4; right <= 7; right++) {
            RowPresolve x = Told.alike(3, 0, 1);
            Told.atMost(x, right, a);
            x.shrink(0, 1);
            int size = x.clique(0);
            for (int point = 0; point < 8; point++) {
                int sum = 0;
                for (int column = 0; column < 3; column++) {
                    sum += a[column] * (point >> column & 1);
                }
                int many = 0;
                for (int i = 0; i < size; i++) {
                    int term = x.cliqueAt(0, i);
                    many += (point >> (term / 2) & 1) == term % 2 ? 1 : 0;
                }
                Check.yes("at most one at " + right, sum > right || many <= 1);
            }
            Check.is("clique at right " + right, right > 3 ? 0 : right > 1 ? 2 : 3, size);
        }
    }

    private static void firstOfBest() {
        RowPresolve x = Told.columns(-1, 1, 1, -1, 1, 1, -1, 1, 1);
        Told.equal(x, 0, 1, 1, 1);
        Check.is("best", 1, x.best(false));
        int[] due = {-1, 0, 1};
        for (int i = 0; i < 3; i++) {
            Check.is("at " + i, due[i], x.bestAt(i));
        }
        RowPresolve less = Told.columns(-1, 1, 1, -1, 1, 2);
        Told.equal(less, 0, 1, 1);
        less.best(false);
        Check.is("the least value", -1, less.bestValue());
        Check.is("though not the first", 1, less.bestAt(0));
        RowPresolve free = Told.columns(-3, 5, 0, -4, 5, 0);
        free.best(false);
        Check.is("the first of all", -3, free.bestAt(0));
        Check.is("the first of all", -4, free.bestAt(1));
    }

    private static void withoutColumns() {
        RowPresolve x = new RowPresolve();
        Check.is("best", 1, x.best(false));
        Check.is("value", 0, x.bestValue());
        x.row(0, 0);
        x.row(1, 0);
        Check.is("rows that hold", 1, x.best(false));
        x.shrink(0, 1);
        Check.is("of the small", 1, x.best(true));
        Check.is("back", 1, x.back());
        x.row(0, -1);
        Check.is("a row that does not hold", 0, x.best(false));
        x.shrink(0, 1);
        Check.is("of the small", 0, x.best(true));
        Check.is("back", 0, x.back());
    }
}
