/** Counts what is not as due; a test ends with exit code 1 if there was any. */
final class Check {
    static final Class<?> STATE = IllegalStateException.class;
    static final Class<?> ARGUMENT = IllegalArgumentException.class;
    static final Class<?> INDEX = IndexOutOfBoundsException.class;

    private static int done = 0;
    private static int wrong = 0;
    private static String place = "";

    interface Call {
        void run();
    }

    interface Answer {
        long get();
    }

    private Check() {
    }

    static void is(String what, long due, long got) {
        is(what, Long.toString(due), Long.toString(got));
    }

    static void is(String what, String due, String got) {
        done++;
        if (!due.equals(got)) {
            wrong++;
            System.out.println(place + what + " answered " + got + ", due is " + due);
        }
    }

    static void yes(String what, boolean got) {
        is(what, "true", Boolean.toString(got));
    }

    static void no(String what, boolean got) {
        is(what, "false", Boolean.toString(got));
    }

    /** A test with a name of its own, which stands before all that is wrong in it; it must not be empty. */
    static void within(String name, Call test) {
        int before = done;
        place = name + ": ";
        is("the test raised", "nothing", raised(test));
        place = "";
        yes(name + " is looked at", done > before + 1);
    }

    /** The very class counts: what the machine throws is below IndexOutOfBoundsException and the like. */
    static void raises(String what, Class<?> due, Call call) {
        is(what, due.getSimpleName(), raised(call));
    }

    /** As raises(), and nothing that can be asked of the object is changed by the call. */
    static void refuses(RowPresolve x, String what, Class<?> due, Call call) {
        String before = everything(x);
        raises(what, due, call);
        is("what is told behind " + what, before, everything(x));
    }

    static void end() {
        System.out.println(done + " checks, " + wrong + " wrong");
        if (wrong != 0 || done == 0) {
            System.exit(1);
        }
    }

    /** The acts, each as "rule row column what number", with "; " between. */
    static void acts(RowPresolve x, String due) {
        StringBuilder got = new StringBuilder();
        for (int i = 0; i < x.acts(); i++) {
            got.append(i == 0 ? "" : "; ");
            for (int what = 0; what < 5; what++) {
                got.append(what == 0 ? "" : " ").append(x.act(i, what));
            }
        }
        is("the acts", due, got.toString());
    }

    /** The acts of one round. */
    static void actsOf(RowPresolve x, int rules, String due) {
        is("shrink", 1, x.shrink(rules, 1));
        acts(x, due);
    }

    static void columnIs(RowPresolve x, int column, int state, int low, int high, int cost) {
        is("state of column " + column, state, x.state(column));
        is("low of column " + column, low, x.bound(column, false));
        is("high of column " + column, high, x.bound(column, true));
        is("cost of column " + column, cost, x.cost(column));
    }

    static void rowIs(RowPresolve x, int row, int kind, long right, int... coefficients) {
        is("kind of row " + row, kind, x.kind(row));
        is("right of row " + row, right, x.right(row));
        for (int column = 0; column < coefficients.length; column++) {
            is("coefficient " + row + ", " + column, coefficients[column], x.coefficient(row, column));
        }
    }

    static void gone(RowPresolve x, int row) {
        is("kind of row " + row, RowPresolve.NONE, x.kind(row));
    }

    /** The rests of a column's low and high. */
    static void rests(RowPresolve x, int column, int low, int high) {
        is("rest of low of column " + column, low, x.rest(1, column));
        is("rest of high of column " + column, high, x.rest(2, column));
    }

    /** All ended at once by this rule's last row: what is told then, and that the certificate is true. */
    static void impossible(RowPresolve x, int rules, int certificate) {
        is("shrink", 0, x.shrink(rules, 50));
        is("certificate", certificate, x.certificate());
        is("certified", 1, x.certified());
    }

    /** All answers that can be had without changing anything, in less than 512 calls. */
    static String everything(RowPresolve x) {
        StringBuilder all = new StringBuilder();
        Answer[] single = {x::offset, x::certificate, x::certified, x::acts, x::parts, x::value, x::bestValue};
        for (Answer answer : single) {
            add(all, answer);
        }
        int columns = countPlaces(x::state);
        for (int column = 0; column <= columns; column++) {
            addColumn(all, x, column);
        }
        int rows = countPlaces(x::kind);
        for (int row = 0; row <= rows; row++) {
            addRow(all, x, row, columns);
        }
        for (int i = 0; i < 20 && raised(actOf(x, i)).equals("nothing"); i++) {
            addAct(all, x, i);
        }
        return all.toString();
    }

    private interface Place {
        long ask(int i);
    }

    private static int countPlaces(Place place) {
        int count = 0;
        while (count < 13 && raised(askOf(place, count)).equals("nothing")) {
            count++;
        }
        return count;
    }

    private static Call askOf(Place place, int i) {
        return () -> place.ask(i);
    }

    private static Call actOf(RowPresolve x, int i) {
        return () -> x.act(i, 0);
    }

    private static void addColumn(StringBuilder all, RowPresolve x, int column) {
        add(all, () -> x.state(column));
        add(all, () -> x.bound(column, false));
        add(all, () -> x.bound(column, true));
        add(all, () -> x.cost(column));
        add(all, () -> x.rest(1, column));
        add(all, () -> x.rest(2, column));
        add(all, () -> x.same(column, 0) ? 1 : 0);
        add(all, () -> x.at(column));
        add(all, () -> x.bestAt(column));
    }

    private static void addRow(StringBuilder all, RowPresolve x, int row, int columns) {
        add(all, () -> x.kind(row));
        add(all, () -> x.right(row));
        add(all, () -> x.rest(0, row));
        add(all, () -> x.cliqueAt(row, 0));
        add(all, () -> x.clique(row));
        for (int column = 0; column < columns; column++) {
            int at = column;
            add(all, () -> x.coefficient(row, at));
        }
    }

    private static void addAct(StringBuilder all, RowPresolve x, int i) {
        for (int what = 1; what < 5; what++) {
            int number = what;
            add(all, () -> x.act(i, number));
        }
    }

    static void add(StringBuilder all, Answer answer) {
        long[] got = new long[1];
        String raised = raised(() -> got[0] = answer.get());
        all.append(raised.equals("nothing") ? Long.toString(got[0]) : raised).append(' ');
    }

    static String raised(Call call) {
        try {
            call.run();
            return "nothing";
        } catch (RuntimeException e) {
            return e.getClass().getSimpleName();
        }
    }
}
