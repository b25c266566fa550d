/** Tells a whole in few words. */
final class Told {
    private Told() {
    }

    /** A new object with columns, each by low, high, cost. */
    static RowPresolve columns(int... numbers) {
        RowPresolve x = new RowPresolve();
        for (int i = 0; i + 2 < numbers.length; i += 3) {
            x.column(numbers[i], numbers[i + 1], numbers[i + 2]);
        }
        return x;
    }

    /** Columns that all have the same bounds and the cost 0. */
    static RowPresolve alike(int count, int low, int high) {
        RowPresolve x = new RowPresolve();
        for (int i = 0; i < count; i++) {
            x.column(low, high, 0);
        }
        return x;
    }

    static int row(RowPresolve x, int kind, int right, int... coefficients) {
        int row = x.row(kind, right);
        for (int column = 0; column < coefficients.length; column++) {
            x.term(row, column, coefficients[column]);
        }
        return row;
    }

    static int atMost(RowPresolve x, int right, int... coefficients) {
        return row(x, 0, right, coefficients);
    }

    static int equal(RowPresolve x, int right, int... coefficients) {
        return row(x, 1, right, coefficients);
    }

    /** The bits of the rules. */
    static int rules(int... numbers) {
        int bits = 0;
        for (int number : numbers) {
            bits |= 1 << (number - 1);
        }
        return bits;
    }
}
