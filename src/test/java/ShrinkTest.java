/** Promise 6: the small is made anew, by the rules that are asked for, in so many rounds. */
public final class ShrinkTest {
    public static void main(String[] args) {
        wrongArguments();
        roundsAreCounted();
        onlyWhatIsAsked();
        madeAnew();
        orderOfRules();
        impossibleEndsAll();
        Check.end();
    }

    private static void wrongArguments() {
        RowPresolve x = Told.columns(0, 3, 1);
        Told.atMost(x, 2, 1);
        int[][] wrong = {
            {-1, 1}, {2048, 1}, {0, 0}, {0, 51}, {0, -1}, {Integer.MIN_VALUE, 1}, {0, Integer.MAX_VALUE},
        };
        for (int[] w : wrong) {
            Check.raises("no small yet", Check.ARGUMENT, () -> x.shrink(w[0], w[1]));
            Check.raises("still none", Check.STATE, x::acts);
        }
        x.shrink(Told.rules(3), 1);
        x.put(0, 1);
        x.back();
        x.best(true);
        for (int[] w : wrong) {
            Check.refuses(x, "shrink", Check.ARGUMENT, () -> x.shrink(w[0], w[1]));
        }
        Check.is("what was put stays", 1, x.back());
    }

    private static void roundsAreCounted() {
        RowPresolve x = chase();
        Check.is("no rules", 1, x.shrink(0, 50));
        Check.is("its acts", 0, x.acts());
        Check.is("one round", 1, x.shrink(16, 1));
        Check.is("its acts", 4, x.acts());
        Check.is("two rounds", 2, x.shrink(16, 2));
        Check.is("its acts", 8, x.acts());
        Check.is("fifty rounds", 50, x.shrink(16, 50));
        Check.is("its acts", 200, x.acts());
        RowPresolve y = Told.alike(1, 0, 9);
        Told.atMost(y, 5, 1);
        Check.is("the round without an act counts", 2, y.shrink(Told.rules(5), 50));
        Check.is("a round with acts only", 1, y.shrink(Told.rules(5), 1));
    }

    /** Two columns that each must be below the other: round by round the bounds come nearer. */
    private static RowPresolve chase() {
        RowPresolve x = Told.alike(2, 0, 10000);
        Told.atMost(x, -1, 1, -1);
        Told.atMost(x, -1, -1, 1);
        return x;
    }

    private static void onlyWhatIsAsked() {
        for (int rule = 1; rule <= 11; rule++) {
            RowPresolve x = ofAllRules();
            x.shrink(1 << (rule - 1), 50);
            Check.yes("rule " + rule + " acts", x.acts() > 0);
            for (int i = 0; i < x.acts(); i++) {
                Check.is("the rule of act " + i, rule, x.act(i, 0));
            }
            x.shrink(2047 - (1 << (rule - 1)), 50);
            for (int i = 0; i < x.acts(); i++) {
                Check.yes("not rule " + rule, x.act(i, 0) != rule);
            }
        }
    }

    /** A whole at which each rule has something to do. */
    private static RowPresolve ofAllRules() {
        RowPresolve x = Told.columns(0, 1, 1, 0, 1, -2, 3, 3, 5, 0, 9, 0, 0, 9, 1, 0, 9, 1, -100, 100, 2);
        Told.atMost(x, 0);
        Told.atMost(x, 7, 2, 4, 0, 2);
        Told.atMost(x, 5, 0, 0, 0, 1);
        Told.atMost(x, 9, 0, 3, 2);
        Told.atMost(x, 9, 0, 3, 2);
        Told.equal(x, 4, 0, 0, 0, 1, 1);
        Told.atMost(x, 4, 3, 3);
        Told.equal(x, 3, 1, 0, 0, 0, 1, 0, 1);
        return x;
    }

    private static void madeAnew() {
        RowPresolve x = Told.columns(0, 9, 2);
        Told.equal(x, 12, 3);
        Check.is("all rules", 2, x.shrink(2047, 50));
        Check.columnIs(x, 0, 1, 4, 4, 0);
        Check.is("offset", 8, x.offset());
        Check.is("no rules", 1, x.shrink(0, 1));
        Check.columnIs(x, 0, 0, 0, 9, 2);
        Check.rowIs(x, 0, 1, 12, 3);
        Check.is("offset", 0, x.offset());
        Check.is("acts", 0, x.acts());
        Check.rests(x, 0, 0, 0);
        Check.is("rest", 1, x.rest(0, 0));
        RowPresolve y = Told.alike(1, 0, 9);
        Told.equal(y, 10, 1);
        Check.is("impossible", 0, y.shrink(2047, 50));
        Check.is("no rules", 1, y.shrink(0, 50));
        Check.is("certificate", -1, y.certificate());
        RowPresolve z = Told.alike(2, 0, 9);
        Told.equal(z, 9, 1, 1);
        for (int i = 0; i < 3; i++) {
            Check.is("put in again", 2, z.shrink(256, 50));
            z.put(0, 4);
            Check.is("back", 1, z.back());
            Check.is("at", 5, z.at(1));
        }
        z.shrink(0, 1);
        z.put(0, 4);
        z.put(1, 6);
        Check.is("nothing is put in now", 0, z.back());
        Check.is("at", 6, z.at(1));
    }

    /** Row 0 has one term; rule 2 comes before rule 3 whatever the bits are, and rule 3 before rule 6. */
    private static void orderOfRules() {
        RowPresolve x = Told.alike(1, 0, 9);
        Told.equal(x, -6, -2);
        x.shrink(Told.rules(6, 3, 2), 1);
        Check.acts(x, "2 0 -1 3 3; 3 0 0 1 3; 3 0 0 2 3; 3 0 -1 0 3; 6 -1 0 4 3");
    }

    private static void impossibleEndsAll() {
        RowPresolve x = Told.alike(2, 0, 9);
        Told.atMost(x, 5, 1);
        Told.atMost(x, -6, -1);
        Told.atMost(x, 4, 0, 1);
        Check.is("shrink", 0, x.shrink(2047, 50));
        Check.acts(x, "3 0 0 2 5; 3 0 -1 0 5");
        Check.rowIs(x, 1, 0, -6, -1, 0);
        Check.rowIs(x, 2, 0, 4, 0, 1);
        Check.columnIs(x, 0, 0, 0, 5, 0);
        Check.columnIs(x, 1, 0, 0, 9, 0);
        Check.is("certificate", 3, x.certificate());
        Check.is("in a later round", 0, late().shrink(16, 50));
    }

    private static RowPresolve late() {
        RowPresolve x = Told.alike(2, 0, 50);
        Told.atMost(x, -1, 1, -1);
        Told.atMost(x, -1, -1, 1);
        return x;
    }
}
