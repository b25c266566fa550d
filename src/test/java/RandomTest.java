import java.util.Random;

/**
 * What the document says of every small: it has a fitting point just when the whole has one, the same least value,
 * its points turn back to points of the whole, and certificates are true. The seed is fixed.
 */
public final class RandomTest {
    private static final Random RANDOM = new Random(20261116);

    public static void main(String[] args) {
        for (int i = 0; i < 4000; i++) {
            RowPresolve x = new RowPresolve();
            boolean full = i % 10 == 0;
            int columns = full ? 12 : 1 + RANDOM.nextInt(5);
            tell(x, columns, full ? 12 : RANDOM.nextInt(7));
            for (int k = 0; k < 3; k++) {
                int rules = k == 0 ? 2047 : RANDOM.nextInt(2048);
                compare(x, columns, rules, k == 1 ? 1 + RANDOM.nextInt(3) : 50);
            }
        }
        for (int i = 0; i < 300; i++) {
            anyCalls();
        }
        Check.end();
    }

    /** Mostly with a point that fits, so that there is something to be made smaller. */
    private static void tell(RowPresolve x, int columns, int rows) {
        int[] point = new int[columns];
        for (int column = 0; column < columns; column++) {
            int low = RANDOM.nextInt(4) - 2;
            int width = columns < 6 ? RANDOM.nextInt(4) : (column % 5 + 1) / 2 % 2;
            x.column(low, low + width, RANDOM.nextInt(11) - 5);
            point[column] = low + RANDOM.nextInt(width + 1);
        }
        for (int row = 0; row < rows; row++) {
            int[] a = new int[columns];
            int sum = 0;
            for (int column = 0; column < columns; column++) {
                a[column] = RANDOM.nextInt(3) == 0 ? 0 : RANDOM.nextInt(9) - 4;
                sum += a[column] * point[column];
            }
            int kind = RANDOM.nextInt(2);
            int slack = kind == 0 ? RANDOM.nextInt(4) : 0;
            int off = RANDOM.nextInt(10) == 0 ? RANDOM.nextInt(7) - 3 : 0;
            Told.row(x, kind, sum + slack + off, a);
        }
    }

    private static void compare(RowPresolve x, int columns, int rules, int rounds) {
        int done = x.shrink(rules, rounds);
        Check.yes("rounds", done <= rounds);
        Check.is("0 rounds just when it is impossible", done == 0 ? 1 : 0, x.certificate() == -1 ? 0 : 1);
        int whole = x.best(false);
        long value = whole == 1 ? x.bestValue() : 0;
        if (done == 0) {
            Check.is("none fits", 0, whole);
            Check.is("certified", 1, x.certified());
            return;
        }
        Check.is("fits", whole, x.best(true));
        if (whole == 1) {
            Check.is("least value", value, x.bestValue());
            for (int column = 0; column < columns; column++) {
                if (x.state(column) == 0) {
                    x.put(column, x.bestAt(column));
                }
            }
            Check.is("back", 1, x.back());
            Check.is("value of the point turned back", value, x.value());
        }
    }

    /** Any calls at all: nothing but the three exceptions of the document ever comes out. */
    private static void anyCalls() {
        RowPresolve x = new RowPresolve();
        for (int i = 0; i < 512; i++) {
            String raised = "";
            try {
                anyCall(x);
            } catch (RuntimeException e) {
                raised = e.getClass().getSimpleName();
            }
            Check.yes("raised " + raised, raised.isEmpty() || raised.equals("IllegalStateException")
                    || raised.equals("IllegalArgumentException") || raised.equals("IndexOutOfBoundsException"));
        }
    }

    private static int number() {
        int[] some = {-1, 0, 0, 1, 1, 2, 3, 5, 11, 12, 1000, -1000, 1000000, Integer.MIN_VALUE, Integer.MAX_VALUE};
        return some[RANDOM.nextInt(some.length)];
    }

    private static void anyCall(RowPresolve x) {
        switch (RANDOM.nextInt(30)) {
            case 0 -> x.column(number(), number(), number());
            case 1 -> x.column(-RANDOM.nextInt(3), RANDOM.nextInt(3), RANDOM.nextInt(9) - 4);
            case 2 -> x.row(RANDOM.nextInt(2), RANDOM.nextInt(20) - 2);
            case 3, 4, 5, 6 -> x.term(RANDOM.nextInt(5), RANDOM.nextInt(5), RANDOM.nextInt(7) - 3);
            case 7 -> x.term(number(), number(), number());
            case 8 -> x.row(number(), number());
            case 9, 10, 11 -> x.shrink(RANDOM.nextInt(2048), 50);
            case 12 -> x.shrink(number(), number());
            case 13 -> x.state(number());
            case 14 -> x.bound(number(), true);
            case 15 -> x.coefficient(number(), number());
            case 16 -> x.rest(number(), number());
            case 17 -> x.certified();
            case 18 -> x.act(number(), number());
            case 19 -> x.parts();
            case 20 -> x.cliqueAt(number(), number());
            case 21 -> x.same(number(), number());
            case 22, 23, 24 -> x.put(RANDOM.nextInt(3), RANDOM.nextInt(3) - 1);
            case 25 -> x.back();
            case 26 -> x.at(number());
            case 27 -> x.best(RANDOM.nextBoolean());
            case 28 -> x.bestAt(number());
            default -> x.value();
        }
    }
}
