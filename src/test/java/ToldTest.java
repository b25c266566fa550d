/** Promises 7 to 18: what is told of the small, of what it rests on, and of its acts. */
public final class ToldTest {
    public static void main(String[] args) {
        noSmall();
        places();
        askedOfAll();
        rest();
        certificates();
        certified();
        acts();
        manyActs();
        Check.end();
    }

    private static void noSmall() {
        RowPresolve x = Told.columns(0, 1, 1);
        Told.atMost(x, 1, 1);
        Check.Call[] calls = {
            () -> x.state(0), () -> x.state(9), () -> x.bound(0, true), () -> x.bound(-1, false), () -> x.cost(0),
            () -> x.cost(9), () -> x.kind(0), () -> x.kind(9), () -> x.right(0), () -> x.right(-1),
            () -> x.coefficient(0, 0), () -> x.coefficient(9, 9), x::offset, () -> x.rest(0, 0), () -> x.rest(3, 9),
            x::certificate, x::certified, x::acts, () -> x.act(0, 0), () -> x.act(9, 9), x::parts,
            () -> x.clique(0), () -> x.clique(9), () -> x.cliqueAt(0, 0), () -> x.cliqueAt(9, 9),
            () -> x.same(0, 0), () -> x.same(9, 9), () -> x.put(0, 0), () -> x.put(9, 0), () -> x.put(0, 9),
            x::back, () -> x.at(0), () -> x.at(9), x::value, () -> x.best(true), x::bestValue, () -> x.bestAt(0),
            () -> x.bestAt(9),
        };
        for (int i = 0; i < calls.length; i++) {
            Check.refuses(x, "call " + i + " without a small", Check.STATE, calls[i]);
        }
    }

    private static void places() {
        RowPresolve x = Told.alike(2, 0, 1);
        Told.atMost(x, 1, 1);
        Told.atMost(x, 1, 1, 1);
        Told.atMost(x, 1, 1);
        x.shrink(0, 1);
        int[][] outside = {{-1, -1}, {2, 3}, {12, 12}, {Integer.MIN_VALUE, Integer.MIN_VALUE},
            {Integer.MAX_VALUE, Integer.MAX_VALUE}};
        for (int[] o : outside) {
            Check.refuses(x, "state", Check.INDEX, () -> x.state(o[0]));
            Check.refuses(x, "bound", Check.INDEX, () -> x.bound(o[0], true));
            Check.refuses(x, "cost", Check.INDEX, () -> x.cost(o[0]));
            Check.refuses(x, "kind", Check.INDEX, () -> x.kind(o[1]));
            Check.refuses(x, "right", Check.INDEX, () -> x.right(o[1]));
            Check.refuses(x, "coefficient", Check.INDEX, () -> x.coefficient(o[1], 0));
            Check.refuses(x, "coefficient", Check.INDEX, () -> x.coefficient(0, o[0]));
            Check.refuses(x, "rest", Check.INDEX, () -> x.rest(0, o[1]));
            Check.refuses(x, "rest", Check.INDEX, () -> x.rest(1, o[0]));
            Check.refuses(x, "rest", Check.INDEX, () -> x.rest(2, o[0]));
            Check.refuses(x, "rest", Check.ARGUMENT, () -> x.rest(3, o[0]));
        }
        Check.refuses(x, "rest", Check.ARGUMENT, () -> x.rest(-1, 0));
        Check.refuses(x, "rest", Check.ARGUMENT, () -> x.rest(3, 0));
        Check.is("a row beyond the columns", 4, x.rest(0, 2));
        Check.refuses(x, "certified when it is possible", Check.STATE, x::certified);
        Check.is("certificate when it is possible", -1, x.certificate());
    }

    /** One column of each state, rows there and gone. */
    private static void askedOfAll() {
        RowPresolve x = Told.columns(4, 4, 3, -9, 9, 5, -9, 9, 7);
        Told.equal(x, 2, 0, 2, -1);
        Told.atMost(x, 25, 2, 1, 1);
        Told.atMost(x, 500, 1, 1, 1);
        x.shrink(Told.rules(4, 6, 9), 1);
        Check.acts(x, "4 2 -1 0 500; 6 -1 0 4 4; 9 0 1 1 -3; 9 0 1 2 5; 9 0 2 5 -2");
        Check.columnIs(x, 0, 1, 4, 4, 0);
        Check.columnIs(x, 1, 0, -3, 5, 19);
        Check.columnIs(x, 2, 2, -9, 9, 0);
        Check.rowIs(x, 0, -1, 2, 0, 0, 0);
        Check.rowIs(x, 1, 0, 19, 0, 3, 0);
        Check.rowIs(x, 2, -1, 500, 0, 0, 0);
        Check.is("offset", 12 - 14, x.offset());
    }

    private static void rest() {
        RowPresolve x = Told.alike(12, 0, 9);
        for (int i = 0; i < 12; i++) {
            int row = x.row(0, 5);
            x.term(row, i, i % 2 == 0 ? 1 : -1);
            x.term(row, (i + 1) % 12, 1);
        }
        x.shrink(0, 1);
        for (int i = 0; i < 12; i++) {
            Check.is("rest of row " + i, 1 << i, x.rest(0, i));
            Check.rests(x, i, 0, 0);
        }
        RowPresolve y = Told.alike(1, 0, 9);
        for (int i = 0; i < 12; i++) {
            Told.atMost(y, 9 - i / 2, 1);
        }
        y.shrink(Told.rules(3), 1);
        Check.rests(y, 0, 0, 1 << 10);
        Check.is("high", 4, y.bound(0, true));
    }

    private static void certificates() {
        RowPresolve x = Told.alike(1, 0, 9);
        for (int i = 0; i < 11; i++) {
            Told.atMost(x, 9, 1);
        }
        Told.equal(x, 10, 1);
        Check.impossible(x, Told.rules(3), 1 << 11);
        Check.refuses(x, "put", Check.STATE, () -> x.put(0, 1));
        Check.refuses(x, "put", Check.STATE, () -> x.put(9, 99));
        Check.refuses(x, "back", Check.STATE, x::back);
        Check.refuses(x, "at", Check.STATE, () -> x.at(0));
        Check.is("what is told goes on", 0, x.state(0));
        Check.is("parts too", 1, x.parts());
        RowPresolve bare = new RowPresolve();
        Check.raises("back without a small", Check.STATE, bare::back);
        bare.row(0, -1);
        Check.impossible(bare, Told.rules(1), 1);
        Check.raises("back when it is impossible", Check.STATE, bare::back);
        bare.row(0, 0);
        Check.raises("certified when the small has ended", Check.STATE, bare::certified);
        Check.raises("certificate too", Check.STATE, bare::certificate);
    }

    private static void certified() {
        RowPresolve x = Told.alike(1, 0, 3999);
        Told.equal(x, 4000, 1);
        Check.is("shrink", 0, x.shrink(4, 1));
        Check.is("4000 points", 1, x.certified());
        Check.is("once more", 1, x.certified());
        RowPresolve y = Told.alike(1, 0, 4000);
        Told.equal(y, 4001, 1);
        Check.is("shrink", 0, y.shrink(4, 1));
        Check.is("4001 points", -1, y.certified());
        RowPresolve z = Told.alike(12, -10000, 10000);
        Told.atMost(z, -1);
        Check.is("shrink", 0, z.shrink(1, 1));
        Check.is("very many points", -1, z.certified());
        RowPresolve possible = Told.alike(1, 0, 4);
        Check.raises("no small", Check.STATE, possible::certified);
        possible.shrink(2047, 50);
        Check.raises("not impossible", Check.STATE, possible::certified);
    }

    private static void acts() {
        RowPresolve x = Told.alike(1, 0, 9);
        Told.atMost(x, 5, 1);
        x.shrink(Told.rules(3), 50);
        Check.is("acts", 2, x.acts());
        Check.refuses(x, "act", Check.INDEX, () -> x.act(2, 0));
        Check.refuses(x, "act", Check.INDEX, () -> x.act(-1, 0));
        Check.refuses(x, "act", Check.INDEX, () -> x.act(2, 5));
        Check.refuses(x, "act", Check.INDEX, () -> x.act(Integer.MIN_VALUE, -1));
        Check.refuses(x, "act", Check.ARGUMENT, () -> x.act(0, 5));
        Check.refuses(x, "act", Check.ARGUMENT, () -> x.act(1, -1));
        x.shrink(0, 50);
        Check.is("acts", 0, x.acts());
        Check.refuses(x, "act of an earlier small", Check.INDEX, () -> x.act(0, 0));
    }

    private static void manyActs() {
        RowPresolve x = Told.alike(12, 0, 10000);
        for (int i = 0; i < 12; i++) {
            x.row(0, -1);
            x.term(i, i, 1);
            x.term(i, (i + 1) % 12, -1);
        }
        Check.is("shrink", 50, x.shrink(Told.rules(5), 50));
        Check.is("acts", 1200, x.acts());
        Check.is("the last one kept", 5, x.act(399, 0));
        Check.refuses(x, "one not kept", Check.INDEX, () -> x.act(400, 0));
        Check.refuses(x, "one not kept", Check.INDEX, () -> x.act(1199, 7));
    }
}
