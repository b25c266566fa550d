/** The rules of rows, sentence by sentence: 1 EMPTY, 2 SHARED, 3 SINGLE, 4 SPAN, 5 TIGHT, 7 TWINS, 10 LESS. */
final class RowRuleEdges {
    private static final int[] ONES = {1, 1, 1, 1, 1, 1, 1, 1, 1, 1, 1, 1};

    private RowRuleEdges() {
    }

    static void run() {
        emptyAndShared();
        singleAndSpan();
        tightAndLess();
        twins();
    }

    private static void emptyAndShared() {
        Edges.says("Rule 1", "it has no TERMS", RowRuleEdges::emptyTerms);
        Edges.says("Rule 1", "GONE (an ACT), if 0 is at most R (KIND 1: is R)", RowRuleEdges::emptyRights);
        Edges.says("Rule 1", "else IMPOSSIBLE, resting on the row", RowRuleEdges::emptyImpossible);
        Edges.says("Rule 2", "it has TERMS", RowRuleEdges::sharedTerms);
        Edges.says("Rule 2", "g is the greatest number that divides all their coefficients",
                RowRuleEdges::sharedDivisor);
        Edges.says("Rule 2", "KIND 1, and g does not divide R: IMPOSSIBLE, resting on the row",
                RowRuleEdges::sharedImpossible);
        Edges.says("Rule 2", "if g is above 1, coefficients and R become those divided by g (R DOWN)",
                RowRuleEdges::sharedDown);
        Edges.says("Rule 2", "then, of KIND 1, if the first TERM's coefficient is below 0, all these signs turn",
                RowRuleEdges::sharedSigns);
        Edges.says("Rule 2", "If any of this was done: one ACT, the row is made ANEW.", RowRuleEdges::sharedActs);
    }

    private static void singleAndSpan() {
        Edges.says("Rule 3", "it has just one TERM", RowRuleEdges::singleTerms);
        Edges.says("Rule 3", "KIND 1, and a does not divide R: IMPOSSIBLE, resting on the row",
                RowRuleEdges::singleDivides);
        Edges.says("Rule 3", "if it is of KIND 1, or a is below 0, LOW of x is narrowed to R / a UP; then, if it is "
                + "of KIND 1, or a is above 0, HIGH of x to R / a DOWN", RowRuleEdges::singleBounds);
        Edges.says("Rule 3", "Then it is GONE (an ACT).", RowRuleEdges::singleGone);
        Edges.says("Rule 4", "LEAST is above R: IMPOSSIBLE, resting on the row and on what LEAST COMES FROM",
                RowRuleEdges::spanLeastAbove);
        Edges.says("Rule 4", "KIND 1, and GREATEST is below R: IMPOSSIBLE likewise", RowRuleEdges::spanGreatestBelow);
        Edges.says("Rule 4", "KIND 0, and GREATEST is at most R: GONE (an ACT)", RowRuleEdges::spanGone);
        Edges.says("Rule 4", "LEAST is R: the columns of all TERMS, in order, are narrowed", RowRuleEdges::spanLeast);
        Edges.says("Rule 4", "KIND 1, and GREATEST is R: likewise", RowRuleEdges::spanGreatest);
        Edges.says("Rule 4", "the first of these that is so", RowRuleEdges::spanFirst);
    }

    private static void tightAndLess() {
        Edges.says("Rule 5", "for each TERM in order", RowRuleEdges::tightTerms);
        Edges.says("Rule 5", "a above 0: HIGH of x is narrowed to (R - L) / a DOWN, then, of KIND 1, LOW of x to "
                + "(R - G) / a UP", RowRuleEdges::tightAbove);
        Edges.says("Rule 5", "a below 0: LOW of x to (R - L) / a UP, then, of KIND 1, HIGH of x to (R - G) / a DOWN",
                RowRuleEdges::tightBelow);
        Edges.says("Rule 5", "L and G being LEAST and GREATEST without it (as bounds are then)",
                RowRuleEdges::tightAsThen);
        Edges.says("Rule 5", "by the REST of the row and of what L (G) COMES FROM", RowRuleEdges::tightRests);
        Edges.says("Rule 10", "a row of KIND 0", RowRuleEdges::lessKind);
        Edges.says("Rule 10", "for each TERM in order whose column has LOW 0 and HIGH 1", RowRuleEdges::lessColumns);
        Edges.says("Rule 10", "a above 0, and G below R, and G + a above R: a becomes a - (R - G), R becomes G",
                RowRuleEdges::lessAbove);
        Edges.says("Rule 10", "a below 0, and G + a below R, and G above R: a becomes R - G", RowRuleEdges::lessBelow);
        Edges.says("Rule 10", "The REST of the row is more by those of what G COMES FROM and of both bounds of x. An "
                + "ACT, the row is made ANEW.", RowRuleEdges::lessRests);
    }

    private static void twins() {
        Edges.says("Rule 7", "a row that has TERMS, and each one behind it that is THERE, as long as both are",
                RowRuleEdges::twinsThere);
        Edges.says("Rule 7", "With the same coefficients", RowRuleEdges::twinsSame);
        Edges.says("Rule 7", "both of KIND 0: that with the greater RIGHT is GONE, of alike ones the one behind",
                RowRuleEdges::twinsAtMost);
        Edges.says("Rule 7", "both of KIND 1: the one behind is GONE, if their RIGHTS are the same, else IMPOSSIBLE, "
                + "resting on both", RowRuleEdges::twinsEqual);
        Edges.says("Rule 7", "of unlike KINDS: that of KIND 0 is GONE, if its RIGHT is not less than the other one's, "
                + "else IMPOSSIBLE, resting on both", RowRuleEdges::twinsUnlike);
        Edges.says("Rule 7", "With coefficients that are all the other one's turned in sign, and both of KIND 0",
                RowRuleEdges::twinsTurnedWhich);
        Edges.says("Rule 7", "the sum of both RIGHTS is below 0: IMPOSSIBLE, resting on both; it is 0: the first "
                + "becomes KIND 1, its REST is more by that of the other one", RowRuleEdges::twinsTurned);
        Edges.says("Rule 7", "Each GONE is an ACT.", RowRuleEdges::twinsMost);
    }

    private static RowPresolve one(int kind, int right, int a) {
        RowPresolve x = Told.alike(1, -10, 10);
        Told.row(x, kind, right, a);
        return x;
    }

    private static void emptyTerms() {
        RowPresolve x = Told.alike(12, 0, 1);
        x.row(0, 3);
        x.term(0, 11, 5);
        Check.is("one term", 1, x.shrink(Told.rules(1), 50));
        x.term(0, 11, 0);
        Check.is("it is taken away", 2, x.shrink(Told.rules(1), 50));
        Check.acts(x, "1 0 -1 0 3");
        RowPresolve none = new RowPresolve();
        none.row(1, 0);
        Check.is("no columns", 2, none.shrink(Told.rules(1), 50));
        Check.gone(none, 0);
        RowPresolve fixed = Told.alike(12, 1, 1);
        Told.equal(fixed, 12, ONES);
        Check.is("all are fixed", 3, fixed.shrink(Told.rules(1, 6), 50));
        Check.gone(fixed, 0);
        Check.is("its right then", 0, fixed.right(0));
    }

    private static void emptyRights() {
        for (int right : new int[] {-1000000, -1, 0, 1, 1000000}) {
            for (int kind = 0; kind <= 1; kind++) {
                RowPresolve x = one(kind, right, 0);
                boolean holds = kind == 0 ? 0 <= right : right == 0;
                Check.is("kind " + kind + ", right " + right, holds ? 1 : 0, x.shrink(Told.rules(1), 1));
                Check.acts(x, holds ? "1 0 -1 0 " + right : "");
                Check.is("kind of it", holds ? -1 : kind, x.kind(0));
                Check.is("certificate", holds ? -1 : 1, x.certificate());
            }
        }
    }

    private static void emptyImpossible() {
        for (int wrong = 0; wrong < 12; wrong++) {
            RowPresolve x = new RowPresolve();
            for (int row = 0; row < 12; row++) {
                x.row(0, row >= wrong ? -1 : 0);
            }
            Check.impossible(x, Told.rules(1), 1 << wrong);
            Check.is("those before it are gone", wrong, x.acts());
        }
        RowPresolve two = Told.alike(2, 0, 9);
        Told.equal(two, 2, 1);
        Told.equal(two, 3, 0, 1);
        Told.atMost(two, 4, 1, 1);
        Check.impossible(two, Told.rules(1, 3, 6), 7);
    }

    private static void sharedTerms() {
        for (int kind = 0; kind <= 1; kind++) {
            RowPresolve x = one(kind, -5, 0);
            Check.is("no terms", 1, x.shrink(Told.rules(2), 50));
            Check.rowIs(x, 0, kind, -5, 0);
        }
        RowPresolve one = one(0, -13, -6);
        one.shrink(Told.rules(2), 1);
        Check.rowIs(one, 0, 0, -3, -1);
        RowPresolve most = one(0, 1000000, 1000);
        most.shrink(Told.rules(2), 1);
        Check.rowIs(most, 0, 0, 1000, 1);
    }

    private static void sharedDivisor() {
        RowPresolve x = Told.alike(12, 0, 1);
        Told.atMost(x, 100, 1000, -990, 980, 0, 970, -960, 950, 940, 930, 920, 910, 10);
        Told.atMost(x, 100, 1000, -990, 980, 0, 970, -960, 950, 940, 930, 920, 910, 5);
        Told.atMost(x, 100, 1000, -990, 980, 0, 970, -960, 950, 940, 930, 920, 910, 1);
        Told.atMost(x, 100, 997, 991);
        Told.atMost(x, 100, 0, 0, 0, 0, 0, 0, 0, 0, 0, 0, 12, 18);
        x.shrink(Told.rules(2), 50);
        Check.acts(x, "2 0 -1 3 10; 2 1 -1 3 20; 2 4 -1 3 16");
        Check.rowIs(x, 0, 0, 10, 100, -99, 98, 0, 97, -96, 95, 94, 93, 92, 91, 1);
        Check.rowIs(x, 1, 0, 20, 200, -198, 196, 0, 194, -192, 190, 188, 186, 184, 182, 1);
        Check.rowIs(x, 2, 0, 100, 1000, -990);
        Check.rowIs(x, 4, 0, 16, 0, 0, 0, 0, 0, 0, 0, 0, 0, 0, 2, 3);
    }

    private static void sharedImpossible() {
        for (int right = -7; right <= 7; right++) {
            RowPresolve x = Told.alike(2, -9, 9);
            Told.atMost(x, 1, 1);
            Told.equal(x, right, 6, 9);
            int done = x.shrink(Told.rules(2), 1);
            Check.is("3 divides " + right, right % 3 == 0 ? 1 : 0, done);
            Check.is("certificate", right % 3 == 0 ? -1 : 2, x.certificate());
            Check.is("right", right % 3 == 0 ? right / 3 : right, x.right(1));
            Check.is("acts", right % 3 == 0 ? 1 : 0, x.acts());
        }
        RowPresolve turned = Told.alike(2, -9, 9);
        Told.equal(turned, 7, -6, 9);
        Check.impossible(turned, Told.rules(2), 1);
        Check.rowIs(turned, 0, 1, 7, -6, 9);
        RowPresolve atMost = Told.alike(2, -9, 9);
        Told.atMost(atMost, 7, 6, 9);
        Check.is("not of kind 0", 1, atMost.shrink(Told.rules(2), 1));
        RowPresolve single = one(1, 1, 2);
        Check.impossible(single, Told.rules(2), 1);
    }

    private static void sharedDown() {
        for (int right = -7; right <= 7; right++) {
            RowPresolve x = Told.alike(2, -9, 9);
            Told.atMost(x, right, 6, -9);
            x.shrink(Told.rules(2), 1);
            Check.rowIs(x, 0, 0, Math.floorDiv(right, 3), 2, -3);
        }
        RowPresolve one = Told.alike(2, -9, 9);
        Told.atMost(one, 7, 2, 3);
        Told.equal(one, 7, 2, 3);
        Check.is("g is 1", 1, one.shrink(Told.rules(2), 50));
    }

    private static void sharedSigns() {
        RowPresolve x = Told.alike(3, -9, 9);
        Told.equal(x, 5, -1, 2);
        Told.equal(x, 5, 0, -1, 2);
        Told.equal(x, 5, 1, -2);
        Told.equal(x, 0, 0, 0, -1);
        Told.atMost(x, 5, -1, 2);
        Told.atMost(x, 6, -2, 4);
        x.shrink(Told.rules(2), 50);
        Check.rowIs(x, 0, 1, -5, 1, -2, 0);
        Check.rowIs(x, 1, 1, -5, 0, 1, -2);
        Check.rowIs(x, 2, 1, 5, 1, -2, 0);
        Check.rowIs(x, 3, 1, 0, 0, 0, 1);
        Check.rowIs(x, 4, 0, 5, -1, 2, 0);
        Check.rowIs(x, 5, 0, 3, -1, 2, 0);
        RowPresolve all = Told.alike(12, -9, 9);
        Told.equal(all, 24, -2, 4, -6, 8, -10, 12, -14, 16, -18, 20, -22, 24);
        Check.actsOf(all, Told.rules(2), "2 0 -1 3 -12");
        Check.rowIs(all, 0, 1, -12, 1, -2, 3, -4, 5, -6, 7, -8, 9, -10, 11, -12);
        RowPresolve fixed = Told.columns(3, 3, 0, -9, 9, 0, -9, 9, 0);
        Told.equal(fixed, 5, -2, -1, 1);
        fixed.shrink(Told.rules(2, 6), 50);
        Check.acts(fixed, "2 0 -1 3 -5; 6 -1 0 4 3");
        RowPresolve first = Told.columns(3, 3, 0, -9, 9, 0, -9, 9, 0);
        Told.equal(first, 5, 2, -1, 1);
        first.shrink(Told.rules(2, 6), 50);
        Check.acts(first, "6 -1 0 4 3; 2 0 -1 3 1");
    }

    private static void sharedActs() {
        RowPresolve x = Told.alike(2, -9, 9);
        Told.equal(x, 6, -2, 4);
        Told.equal(x, 6, 2, 4);
        Told.equal(x, 6, -1, 4);
        Told.equal(x, 6, 1, 4);
        Check.is("a second round finds nothing", 2, x.shrink(Told.rules(2), 50));
        Check.acts(x, "2 0 -1 3 -3; 2 1 -1 3 3; 2 2 -1 3 -6");
        Check.is("rest stays", 4, x.rest(0, 2));
    }

    private static void singleTerms() {
        RowPresolve x = Told.alike(3, -10, 10);
        Told.atMost(x, -1);
        Told.atMost(x, 5, 1, 0, 1);
        Told.equal(x, 5, 0, 1, 1);
        Check.is("none or two", 1, x.shrink(Told.rules(3), 50));
        x.term(1, 0, 0);
        Check.is("one", 2, x.shrink(Told.rules(3), 50));
        Check.acts(x, "3 1 2 2 5; 3 1 -1 0 5");
    }

    private static void singleDivides() {
        for (int a : new int[] {-3, 3}) {
            for (int right = -7; right <= 7; right++) {
                RowPresolve x = one(1, right, a);
                boolean divides = right % 3 == 0;
                Check.is(a + " divides " + right, divides ? 1 : 0, x.shrink(Told.rules(3), 1));
                Check.columnIs(x, 0, 0, divides ? right / a : -10, divides ? right / a : 10, 0);
                Check.is("certificate", divides ? -1 : 1, x.certificate());
                Check.is("kind", divides ? -1 : 1, x.kind(0));
            }
        }
        for (int a : new int[] {-1000, 1000}) {
            RowPresolve far = Told.alike(1, -10000, 10000);
            Told.equal(far, 1000000, a);
            far.shrink(Told.rules(3), 1);
            Check.columnIs(far, 0, 0, 1000000 / a, 1000000 / a, 0);
            RowPresolve near = Told.alike(1, -10000, 10000);
            Told.equal(near, 999999, a);
            Check.is("not divided", 0, near.shrink(Told.rules(3), 1));
        }
    }

    private static void singleBounds() {
        Check.actsOf(one(1, 6, 3), Told.rules(3), "3 0 0 1 2; 3 0 0 2 2; 3 0 -1 0 6");
        Check.actsOf(one(1, 6, -3), Told.rules(3), "3 0 0 1 -2; 3 0 0 2 -2; 3 0 -1 0 6");
        Check.actsOf(one(0, 7, 3), Told.rules(3), "3 0 0 2 2; 3 0 -1 0 7");
        Check.actsOf(one(0, 7, -3), Told.rules(3), "3 0 0 1 -2; 3 0 -1 0 7");
        Check.actsOf(one(1, 10, 1), Told.rules(3), "3 0 0 1 10; 3 0 -1 0 10");
        Check.actsOf(one(1, 10, -1), Told.rules(3), "3 0 0 2 -10; 3 0 -1 0 10");
        for (int right : new int[] {-11, 11}) {
            RowPresolve x = one(1, right, 1);
            Check.impossible(x, Told.rules(3), 1);
            Check.acts(x, "");
        }
        RowPresolve high = Told.alike(1, -10, 10);
        Told.atMost(high, 4, 1);
        Told.atMost(high, 5, -1);
        Told.equal(high, 5, 1);
        Check.impossible(high, Told.rules(3), 1 + 4);
        RowPresolve low = Told.alike(1, -10, 10);
        Told.atMost(low, 4, 1);
        Told.atMost(low, 5, -1);
        Told.equal(low, -6, 1);
        Check.impossible(low, Told.rules(3), 2 + 4);
    }

    private static void singleGone() {
        Check.actsOf(one(0, 10, 1), Told.rules(3), "3 0 -1 0 10");
        Check.actsOf(one(0, 10, -1), Told.rules(3), "3 0 -1 0 10");
        Check.actsOf(one(0, 1000000, 1), Told.rules(3), "3 0 -1 0 1000000");
        RowPresolve x = Told.alike(12, 0, 9);
        for (int i = 0; i < 12; i++) {
            x.row(1, i % 10);
            x.term(i, i, 1);
        }
        x.shrink(Told.rules(3), 1);
        for (int i = 0; i < 12; i++) {
            Check.gone(x, i);
            Check.is("right of it", i % 10, x.right(i));
        }
    }

    /** The least of first and second is 2 + 3; both lows have rests. */
    private static RowPresolve leastOfFive(int kind, int right) {
        RowPresolve x = Told.alike(2, 0, 9);
        Told.atMost(x, -2, -1);
        Told.atMost(x, -3, 0, -1);
        Told.atMost(x, 8, 1);
        Told.row(x, kind, right, 1, 1);
        return x;
    }

    private static void spanLeastAbove() {
        for (int kind = 0; kind <= 1; kind++) {
            RowPresolve above = leastOfFive(kind, 4);
            Check.impossible(above, Told.rules(3, 4), 1 + 2 + 8);
            Check.is("still there", kind, above.kind(3));
            Check.is("at the least", 2, leastOfFive(kind, 5).shrink(Told.rules(3, 4), 50));
            Check.is("above it", 2, leastOfFive(kind, 6).shrink(Told.rules(3, 4), 50));
        }
        RowPresolve none = one(0, -1, 0);
        Check.impossible(none, Told.rules(4), 1);
        RowPresolve hold = one(0, 0, 0);
        Check.actsOf(hold, Told.rules(4), "4 0 -1 0 0");
    }

    /** The greatest of the first less the second is 7 - 3. */
    private static RowPresolve greatestOfFour(int kind, int right) {
        RowPresolve x = Told.alike(2, 0, 9);
        Told.atMost(x, 7, 1);
        Told.atMost(x, -3, 0, -1);
        Told.atMost(x, 8, 0, 1);
        Told.row(x, kind, right, 1, -1);
        return x;
    }

    private static void spanGreatestBelow() {
        Check.impossible(greatestOfFour(1, 5), Told.rules(3, 4), 1 + 2 + 8);
        Check.is("at the greatest", 2, greatestOfFour(1, 4).shrink(Told.rules(3, 4), 50));
        Check.is("of kind 0", 2, greatestOfFour(0, 5).shrink(Told.rules(3, 4), 50));
        Check.impossible(one(1, 1, 0), Told.rules(4), 1);
        Check.impossible(one(1, -1, 0), Told.rules(4), 1);
        Check.actsOf(one(1, 0, 0), Told.rules(4), "4 0 -1 0 0");
    }

    private static void spanGone() {
        for (int right = 3; right <= 5; right++) {
            RowPresolve x = greatestOfFour(0, right);
            x.shrink(Told.rules(3, 4), 1);
            Check.is("kind at right " + right, right < 4 ? 0 : -1, x.kind(3));
            Check.columnIs(x, 0, 0, 0, 7, 0);
            Check.columnIs(x, 1, 0, 3, 8, 0);
        }
        RowPresolve most = Told.alike(12, -10000, 10000);
        most.row(0, 1000000);
        for (int i = 0; i < 12; i++) {
            most.term(0, i, i < 2 ? 50 : 0);
        }
        Check.actsOf(most, Told.rules(4), "4 0 -1 0 1000000");
        most.term(0, 11, 1);
        Check.actsOf(most, Told.rules(4), "");
    }

    private static void spanLeast() {
        RowPresolve x = leastOfFive(0, 5);
        x.shrink(Told.rules(3, 4), 1);
        Check.columnIs(x, 0, 0, 2, 2, 0);
        Check.columnIs(x, 1, 0, 3, 3, 0);
        Check.rests(x, 0, 1, 1 + 2 + 8);
        Check.rests(x, 1, 2, 1 + 2 + 8);
        Check.gone(x, 3);
        for (int kind = 0; kind <= 1; kind++) {
            RowPresolve all = Told.alike(12, 0, 1);
            Told.row(all, kind, -6, 1, -1, 1, -1, 1, -1, 1, -1, 1, -1, 1, -1);
            all.shrink(Told.rules(4), 1);
            Check.is("twelve bounds and the row", 13, all.acts());
            for (int i = 0; i < 12; i++) {
                Check.is("column", i, all.act(i, 2));
                Check.is("a high, a low", i % 2 == 0 ? 2 : 1, all.act(i, 3));
                Check.columnIs(all, i, 0, i % 2, i % 2, 0);
            }
        }
        RowPresolve part = Told.columns(4, 4, 0, 0, 3, 0, 2, 2, 0);
        Told.atMost(part, 6, 1, 1, 1);
        Check.actsOf(part, Told.rules(4), "4 0 1 2 0; 4 0 -1 0 6");
    }

    private static void spanGreatest() {
        RowPresolve x = greatestOfFour(1, 4);
        x.shrink(Told.rules(3, 4), 1);
        Check.columnIs(x, 0, 0, 7, 7, 0);
        Check.columnIs(x, 1, 0, 3, 3, 0);
        Check.rests(x, 0, 1 + 2 + 8, 1);
        Check.rests(x, 1, 2, 1 + 2 + 8);
        Check.gone(x, 3);
        RowPresolve below = greatestOfFour(1, 3);
        below.shrink(Told.rules(3, 4), 1);
        Check.is("below the greatest nothing is done", 1, below.kind(3));
    }

    private static void spanFirst() {
        RowPresolve fixed = Told.alike(2, 4, 4);
        Told.atMost(fixed, 8, 1, 1);
        Told.equal(fixed, 8, 1, 1);
        Check.actsOf(fixed, Told.rules(4), "4 0 -1 0 8; 4 1 -1 0 8");
        RowPresolve none = Told.alike(1, 0, 9);
        Told.atMost(none, 0);
        Told.equal(none, 0);
        Check.actsOf(none, Told.rules(4), "4 0 -1 0 0; 4 1 -1 0 0");
        RowPresolve both = Told.alike(1, 0, 9);
        Told.equal(both, 0, 1);
        Told.atMost(both, 9, 1);
        Check.actsOf(both, Told.rules(4), "4 0 0 2 0; 4 0 -1 0 0; 4 1 -1 0 9");
    }

    private static void tightTerms() {
        Check.actsOf(one(0, -1, 0), Told.rules(5), "");
        Check.actsOf(one(0, 7, 3), Told.rules(5), "5 0 0 2 2");
        RowPresolve all = Told.alike(12, 0, 9);
        Told.atMost(all, 5, ONES);
        all.shrink(Told.rules(5), 50);
        Check.is("twelve terms", 12, all.acts());
        for (int i = 0; i < 12; i++) {
            Check.is("column of act " + i, i, all.act(i, 2));
            Check.columnIs(all, i, 0, 0, 5, 0);
        }
    }

    private static void tightAbove() {
        int[][] cases = {{0, 20, 0, 9}, {0, 19, 0, 9}, {0, 18, 0, 9}, {0, 17, 0, 8}, {0, 0, 0, 0}};
        for (int[] c : cases) {
            RowPresolve x = Told.columns(0, 9, 0, 0, 3, 0);
            Told.atMost(x, c[1], 2, 1);
            x.shrink(Told.rules(5), 1);
            Check.columnIs(x, 0, 0, c[2], c[3], 0);
        }
        int[][] equal = {{21, 9, 9}, {20, 9, 9}, {19, 8, 9}, {4, 1, 2}, {3, 0, 1}, {2, 0, 1}};
        for (int[] c : equal) {
            RowPresolve x = Told.columns(0, 9, 0, 0, 3, 0);
            Told.equal(x, c[0], 2, 1);
            x.shrink(Told.rules(5), 1);
            Check.columnIs(x, 0, 0, c[1], c[2], 0);
        }
        Check.actsOf(one(1, 4, 2), Told.rules(5), "5 0 0 2 2; 5 0 0 1 2");
        RowPresolve odd = one(1, 5, 2);
        Check.impossible(odd, Told.rules(5), 1);
        Check.acts(odd, "5 0 0 2 2");
        RowPresolve below = Told.columns(0, 9, 0, 0, 3, 0);
        Told.atMost(below, -1, 2, 1);
        Check.impossible(below, Told.rules(5), 1);
        RowPresolve above = Told.columns(0, 9, 0, 0, 3, 0);
        Told.equal(above, 22, 2, 1);
        Check.impossible(above, Told.rules(5), 1);
    }

    private static void tightBelow() {
        int[][] atMost = {{0, 0}, {-1, 1}, {-2, 1}, {-3, 2}, {-17, 9}, {-18, 9}};
        for (int[] c : atMost) {
            RowPresolve x = Told.columns(0, 9, 0, 0, 3, 0);
            Told.atMost(x, c[0], -2, 1);
            x.shrink(Told.rules(5), 1);
            Check.columnIs(x, 0, 0, c[1], 9, 0);
        }
        RowPresolve far = Told.columns(0, 9, 0, 0, 3, 0);
        Told.atMost(far, -19, -2, 1);
        Check.impossible(far, Told.rules(5), 1);
        int[][] equal = {{-18, 9, 9}, {-17, 9, 9}, {-16, 8, 9}, {-4, 2, 3}, {-1, 1, 2}, {3, 0, 0}};
        for (int[] c : equal) {
            RowPresolve x = Told.columns(0, 9, 0, 0, 3, 0);
            Told.equal(x, c[0], -2, 1);
            x.shrink(Told.rules(5), 1);
            Check.columnIs(x, 0, 0, c[1], c[2], 0);
        }
        Check.actsOf(one(1, 4, -2), Told.rules(5), "5 0 0 1 -2; 5 0 0 2 -2");
        RowPresolve odd = one(1, 5, -2);
        Check.impossible(odd, Told.rules(5), 1);
        Check.acts(odd, "5 0 0 1 -2");
    }

    /** The second term is looked at when the first one has its new bounds. */
    private static void tightAsThen() {
        RowPresolve x = Told.columns(0, 20, 0, 0, 4, 0);
        Told.equal(x, 10, 1, 1);
        Check.actsOf(x, Told.rules(5), "5 0 0 2 10; 5 0 0 1 6");
        RowPresolve y = Told.columns(0, 20, 0, 0, 20, 0, 0, 4, 0);
        Told.atMost(y, 3, 1, 0, -1);
        Told.equal(y, 10, 1, 1);
        y.shrink(Told.rules(5), 1);
        Check.acts(y, "5 0 0 2 7; 5 1 1 2 10; 5 1 1 1 3");
        RowPresolve own = Told.alike(1, 0, 9);
        Told.equal(own, 0, 1);
        Check.actsOf(own, Told.rules(5), "5 0 0 2 0");
    }

    private static void tightRests() {
        RowPresolve x = Told.alike(3, 0, 9);
        Told.atMost(x, 6, 1);
        Told.atMost(x, -2, -1);
        Told.atMost(x, 8, 0, 0, 1);
        Told.equal(x, 10, 1, 1);
        x.shrink(Told.rules(3, 5), 1);
        Check.rests(x, 1, 1 + 8, 2 + 8);
        Check.columnIs(x, 1, 0, 4, 8, 0);
        RowPresolve minus = Told.alike(2, 0, 9);
        Told.atMost(minus, 6, 1);
        Told.atMost(minus, -2, -1);
        Told.equal(minus, -1, 1, -1);
        minus.shrink(Told.rules(3, 5), 1);
        Check.rests(minus, 1, 2 + 4, 1 + 4);
        Check.columnIs(minus, 1, 0, 3, 7, 0);
    }

    private static void lessKind() {
        RowPresolve x = Told.alike(2, 0, 1);
        Told.equal(x, 4, 3, 3);
        Told.atMost(x, -1);
        Check.actsOf(x, Told.rules(10), "");
        Told.atMost(x, 4, 3, 3);
        Check.actsOf(x, Told.rules(10), "10 2 -1 3 3; 10 2 -1 3 2");
    }

    private static void lessColumns() {
        int[][] bounds = {{0, 1, 1}, {0, 0, 0}, {1, 1, 0}, {0, 2, 0}, {-1, 1, 0}, {-1, 0, 0}, {1, 2, 0}};
        for (int[] b : bounds) {
            RowPresolve x = Told.columns(b[0], b[1], 0, 0, 9, 0);
            Told.atMost(x, 10, 3, 1);
            x.shrink(Told.rules(10), 1);
            Check.is("acts at " + b[0] + " .. " + b[1], b[2], x.acts());
        }
        RowPresolve all = Told.alike(12, 0, 1);
        Told.atMost(all, 119, 10, 10, 10, 10, 10, 10, 10, 10, 10, 10, 10, 10);
        all.shrink(Told.rules(10), 1);
        Check.is("twelve terms", 12, all.acts());
        for (int i = 0; i < 12; i++) {
            Check.is("right behind term " + i, 110 - 9 * i, all.act(i, 4));
        }
        Check.rowIs(all, 0, 0, 11, ONES);
    }

    /** The other term has a greatest of 6. */
    private static void lessAbove() {
        int[][] cases = {{6, 5, 5, 6}, {7, 5, 4, 6}, {10, 5, 1, 6}, {11, 5, 5, 11}, {12, 5, 5, 12}, {5, 5, 5, 5},
            {7, 1, 1, 7}, {7, 2, 1, 6}};
        for (int[] c : cases) {
            RowPresolve x = Told.columns(0, 1, 0, 0, 3, 0);
            Told.atMost(x, c[0], c[1], 2);
            x.shrink(Told.rules(10), 1);
            Check.rowIs(x, 0, 0, c[3], c[2], 2);
            Check.is("acts", c[1] == c[2] ? 0 : 1, x.acts());
        }
        RowPresolve alone = Told.alike(1, 0, 1);
        Told.atMost(alone, 3, 5);
        Check.actsOf(alone, Told.rules(10), "10 0 -1 3 0");
        Check.rowIs(alone, 0, 0, 0, 2);
    }

    private static void lessBelow() {
        int[][] cases = {{6, -5, -5}, {5, -5, -1}, {2, -5, -4}, {1, -5, -5}, {0, -5, -5}, {7, -5, -5}, {5, -1, -1},
            {5, -2, -1}};
        for (int[] c : cases) {
            RowPresolve x = Told.columns(0, 1, 0, 0, 3, 0);
            Told.atMost(x, c[0], c[1], 2);
            x.shrink(Told.rules(10), 1);
            Check.rowIs(x, 0, 0, c[0], c[2], 2);
            Check.is("acts at right " + c[0], c[1] == c[2] ? 0 : 1, x.acts());
        }
        RowPresolve alone = Told.alike(1, 0, 1);
        Told.atMost(alone, -2, -5);
        Check.actsOf(alone, Told.rules(10), "10 0 -1 3 -2");
        Check.rowIs(alone, 0, 0, -2, -2);
    }

    private static void lessRests() {
        RowPresolve x = Told.columns(-1, 2, 0, 0, 9, 0, 0, 9, 0);
        Told.atMost(x, 0, -1);
        Told.atMost(x, 1, 1);
        Told.atMost(x, 3, 0, 1);
        Told.atMost(x, -1, 0, -1);
        Told.atMost(x, -1, 0, 0, -1);
        Told.atMost(x, 8, 0, 0, 1);
        Told.atMost(x, 6, 7, 2, -1);
        x.shrink(Told.rules(3, 10), 1);
        Check.rowIs(x, 6, 0, 5, 6, 2, -1);
        Check.is("rest", 1 + 2 + 4 + 16 + 64, x.rest(0, 6));
        Check.rests(x, 0, 1, 2);
        Check.is("one act of it", 10, x.act(x.acts() - 1, 0));
        Check.is("anew", 3, x.act(x.acts() - 1, 3));
        RowPresolve none = Told.columns(0, 1, 0, 0, 9, 0);
        Told.atMost(none, 3, 0, 1);
        Told.atMost(none, 3, 7, 1);
        none.shrink(Told.rules(3, 10), 1);
        Check.is("a row that stays keeps its rest", 2, none.rest(0, 1));
    }

    private static void twinsThere() {
        RowPresolve empty = Told.alike(1, 0, 9);
        Told.atMost(empty, 1);
        Told.atMost(empty, 1);
        Told.equal(empty, 1);
        Told.equal(empty, 2);
        Check.is("no terms", 1, empty.shrink(Told.rules(7), 50));
        RowPresolve x = Told.alike(2, 0, 9);
        Told.atMost(x, 5, 1, 1);
        Told.atMost(x, 3, 1, 1);
        Told.atMost(x, 4, 1, 1);
        Check.actsOf(x, Told.rules(7), "7 0 -1 0 5; 7 2 -1 0 4");
        RowPresolve gone = Told.alike(2, 0, 9);
        Told.atMost(gone, 18, 1, 1);
        Told.atMost(gone, 17, 1, 1);
        Told.atMost(gone, 19, 1, 1);
        gone.shrink(Told.rules(4, 7), 50);
        Check.acts(gone, "4 0 -1 0 18; 4 2 -1 0 19");
    }

    private static void twinsSame() {
        for (int other = -1; other < 12; other++) {
            RowPresolve x = Told.alike(12, 0, 9);
            Told.atMost(x, 5, ONES);
            Told.atMost(x, 6, ONES);
            if (other >= 0) {
                x.term(1, other, other % 2 == 0 ? 0 : 2);
            }
            x.shrink(Told.rules(7), 1);
            Check.is("but for column " + other, other < 0 ? 1 : 0, x.acts());
        }
        RowPresolve one = Told.alike(1, 0, 9);
        Told.atMost(one, 5, 1);
        Told.atMost(one, 6, 1);
        Told.atMost(one, 6, 2);
        Check.actsOf(one, Told.rules(7), "7 1 -1 0 6");
        RowPresolve fixed = Told.columns(2, 2, 0, 0, 9, 0);
        Told.atMost(fixed, 5, 1, 1);
        Told.atMost(fixed, 3, 0, 1);
        Check.actsOf(fixed, Told.rules(6, 7), "6 -1 0 4 2; 7 1 -1 0 3");
    }

    private static RowPresolve pair(int kind, int right, int otherKind, int otherRight) {
        RowPresolve x = Told.alike(2, -9, 9);
        Told.atMost(x, 4, 1);
        Told.row(x, kind, right, 1, -2);
        Told.row(x, otherKind, otherRight, 1, -2);
        return x;
    }

    private static void twinsAtMost() {
        Check.actsOf(pair(0, 4, 0, 5), Told.rules(7), "7 2 -1 0 5");
        Check.actsOf(pair(0, 5, 0, 5), Told.rules(7), "7 2 -1 0 5");
        Check.actsOf(pair(0, 6, 0, 5), Told.rules(7), "7 1 -1 0 6");
        RowPresolve x = pair(0, 6, 0, 5);
        x.shrink(Told.rules(7), 1);
        Check.is("the rest of the one that stays", 4, x.rest(0, 2));
    }

    private static void twinsEqual() {
        Check.actsOf(pair(1, 5, 1, 5), Told.rules(7), "7 2 -1 0 5");
        Check.impossible(pair(1, 5, 1, 4), Told.rules(7), 2 + 4);
        Check.impossible(pair(1, 5, 1, 6), Told.rules(7), 2 + 4);
    }

    private static void twinsUnlike() {
        Check.actsOf(pair(0, 6, 1, 5), Told.rules(7), "7 1 -1 0 6");
        Check.actsOf(pair(0, 5, 1, 5), Told.rules(7), "7 1 -1 0 5");
        Check.impossible(pair(0, 4, 1, 5), Told.rules(7), 2 + 4);
        Check.actsOf(pair(1, 5, 0, 6), Told.rules(7), "7 2 -1 0 6");
        Check.actsOf(pair(1, 5, 0, 5), Told.rules(7), "7 2 -1 0 5");
        Check.impossible(pair(1, 5, 0, 4), Told.rules(7), 2 + 4);
    }

    private static RowPresolve turned(int kind, int right, int otherKind, int otherRight) {
        RowPresolve x = Told.alike(2, -9, 9);
        Told.atMost(x, 4, 1);
        Told.row(x, kind, right, 1, -2);
        Told.row(x, otherKind, otherRight, -1, 2);
        return x;
    }

    private static void twinsTurnedWhich() {
        Check.actsOf(turned(1, 5, 1, -5), Told.rules(7), "");
        Check.actsOf(turned(1, 5, 1, -6), Told.rules(7), "");
        Check.actsOf(turned(0, 5, 1, -6), Told.rules(7), "");
        Check.actsOf(turned(1, 5, 0, -6), Told.rules(7), "");
        for (int other = -1; other < 12; other++) {
            RowPresolve x = Told.alike(12, -9, 9);
            Told.atMost(x, 5, ONES);
            Told.atMost(x, -5, -1, -1, -1, -1, -1, -1, -1, -1, -1, -1, -1, -1);
            if (other >= 0) {
                x.term(1, other, other % 2 == 0 ? 0 : 1);
            }
            x.shrink(Told.rules(7), 1);
            Check.is("but for column " + other, other < 0 ? 2 : 0, x.acts());
        }
    }

    private static void twinsTurned() {
        Check.impossible(turned(0, 5, 0, -6), Told.rules(7), 2 + 4);
        Check.actsOf(turned(0, 5, 0, -5), Told.rules(7), "7 1 -1 3 5; 7 2 -1 0 -5");
        Check.actsOf(turned(0, 5, 0, -4), Told.rules(7), "");
        RowPresolve x = turned(0, 5, 0, -5);
        x.shrink(Told.rules(7), 1);
        Check.rowIs(x, 1, 1, 5, 1, -2);
        Check.gone(x, 2);
        Check.is("rest", 2 + 4, x.rest(0, 1));
        Check.is("rest of the other one", 4, x.rest(0, 2));
        RowPresolve far = Told.alike(1, -9, 9);
        Told.atMost(far, -1000000, 1);
        Told.atMost(far, -1000000, -1);
        Check.impossible(far, Told.rules(7), 3);
        RowPresolve wide = Told.alike(1, -9, 9);
        Told.atMost(wide, 1000000, 1);
        Told.atMost(wide, 1000000, -1);
        Check.actsOf(wide, Told.rules(7), "");
    }

    private static void twinsMost() {
        RowPresolve x = Told.alike(2, 0, 9);
        for (int i = 0; i < 12; i++) {
            Told.atMost(x, 12 - i, 1, 1);
        }
        x.shrink(Told.rules(7), 1);
        Check.is("eleven of twelve", 11, x.acts());
        for (int i = 0; i < 11; i++) {
            Check.is("row of act " + i, i, x.act(i, 1));
            Check.is("its right", 12 - i, x.act(i, 4));
        }
        Check.rowIs(x, 11, 0, 1, 1, 1);
        RowPresolve y = Told.alike(2, 0, 9);
        for (int i = 0; i < 12; i++) {
            Told.atMost(y, i, 1, 1);
        }
        y.shrink(Told.rules(7), 1);
        Check.is("eleven of twelve", 11, y.acts());
        Check.rowIs(y, 0, 0, 0, 1, 1);
    }
}
