import java.math.BigInteger;
import java.util.ArrayList;
import java.util.List;
import java.util.Map;
import java.util.TreeMap;
import java.util.TreeSet;

/** THE SMALL of the Model: term 2 of the document, rule by rule. */
final class ModelSmall {
    private static final int GONE = 0;
    private static final int LOW = 1;
    private static final int HIGH = 2;
    private static final int ANEW = 3;
    private static final int FIXED = 4;
    private static final int PUT_IN = 5;

    final List<Model.Column> columns = new ArrayList<>();
    final List<Model.Row> rows = new ArrayList<>();
    final List<long[]> acts = new ArrayList<>();
    private final List<Given> given = new ArrayList<>();
    long offset = 0;
    TreeSet<Integer> certificate = null;
    private int rule = 0;

    /** All ends at once. */
    private static final class Impossible extends RuntimeException {
        private static final long serialVersionUID = 1;
    }

    /** A column that was PUT IN: x is a number and the sum of others, each times its factor. */
    private static final class Given {
        int x;
        long number;
        Map<Integer, Long> factors = new TreeMap<>();
    }

    ModelSmall(List<Model.Column> wholeColumns, List<Model.Row> wholeRows) {
        for (Model.Column told : wholeColumns) {
            columns.add(new Model.Column(told.low, told.high, told.cost));
        }
        for (Model.Row told : wholeRows) {
            Model.Row row = new Model.Row(told.kind, told.right);
            row.terms.putAll(told.terms);
            row.rest.add(rows.size());
            rows.add(row);
        }
    }

    int shrink(int rules, int rounds) {
        try {
            for (int done = 1; done < rounds; done++) {
                int before = acts.size();
                round(rules);
                if (acts.size() == before) {
                    return done;
                }
            }
            round(rules);
            return rounds;
        } catch (Impossible e) {
            return 0;
        }
    }

    private void round(int rules) {
        for (rule = 1; rule <= 11; rule++) {
            if ((rules / (1 << (rule - 1))) % 2 == 1) {
                if (rule == 6 || rule == 8 || rule == 11) {
                    forColumns();
                } else {
                    forRows();
                }
            }
        }
    }

    private void forColumns() {
        for (int x = 0; x < columns.size(); x++) {
            if (columns.get(x).isThere()) {
                switch (rule) {
                    case 6 -> fix(x);
                    case 8 -> side(x);
                    default -> free(x);
                }
            }
        }
    }

    private void forRows() {
        for (int i = 0; i < rows.size(); i++) {
            if (!rows.get(i).gone) {
                switch (rule) {
                    case 1 -> empty(i);
                    case 2 -> shared(i);
                    case 3 -> single(i);
                    case 4 -> span(i);
                    case 5 -> tight(i);
                    case 7 -> twins(i);
                    case 9 -> putIn(i);
                    default -> less(i);
                }
            }
        }
    }

    @SafeVarargs
    private static TreeSet<Integer> join(TreeSet<Integer>... rests) {
        TreeSet<Integer> all = new TreeSet<>();
        for (TreeSet<Integer> rest : rests) {
            all.addAll(rest);
        }
        return all;
    }

    private void impossible(TreeSet<Integer> rest) {
        certificate = join(rest);
        throw new Impossible();
    }

    private void act(int row, int column, int what, long number) {
        acts.add(new long[] {rule, row, column, what, number});
    }

    private void gone(int i) {
        rows.get(i).gone = true;
        act(i, -1, GONE, rows.get(i).right);
    }

    private void anew(int i) {
        act(i, -1, ANEW, rows.get(i).right);
    }

    private void narrowLow(int i, int x, long v, TreeSet<Integer> rest) {
        Model.Column column = columns.get(x);
        if (v > column.low) {
            if (v > column.high) {
                impossible(join(rest, column.highRest));
            }
            column.low = v;
            column.lowRest = join(rest);
            act(i, x, LOW, v);
        }
    }

    private void narrowHigh(int i, int x, long v, TreeSet<Integer> rest) {
        Model.Column column = columns.get(x);
        if (v < column.high) {
            if (v < column.low) {
                impossible(join(rest, column.lowRest));
            }
            column.high = v;
            column.highRest = join(rest);
            act(i, x, HIGH, v);
        }
    }

    /** The whole number that is not above the quotient, found by stepping from the machine's own. */
    private static long down(long a, long b) {
        long quotient = a / b;
        boolean above = a % b != 0 && (a < 0) != (b < 0);
        return above ? quotient - 1 : quotient;
    }

    private static long up(long a, long b) {
        return a % b == 0 ? a / b : down(a, b) + 1;
    }

    long least(Model.Row row, int without) {
        long sum = 0;
        for (int x : row.terms.keySet()) {
            long a = row.terms.get(x);
            Model.Column column = columns.get(x);
            sum = Model.plus(sum, x == without ? 0 : Math.min(Model.times(a, column.low), Model.times(a, column.high)));
        }
        return sum;
    }

    private long greatest(Model.Row row, int without) {
        long sum = 0;
        for (int x : row.terms.keySet()) {
            long a = row.terms.get(x);
            Model.Column column = columns.get(x);
            sum = Model.plus(sum, x == without ? 0 : Math.max(Model.times(a, column.low), Model.times(a, column.high)));
        }
        return sum;
    }

    private TreeSet<Integer> leastFrom(Model.Row row, int without) {
        TreeSet<Integer> from = new TreeSet<>();
        for (int x : row.terms.keySet()) {
            if (x != without) {
                from.addAll(row.terms.get(x) > 0 ? columns.get(x).lowRest : columns.get(x).highRest);
            }
        }
        return from;
    }

    private TreeSet<Integer> greatestFrom(Model.Row row, int without) {
        TreeSet<Integer> from = new TreeSet<>();
        for (int x : row.terms.keySet()) {
            if (x != without) {
                from.addAll(row.terms.get(x) > 0 ? columns.get(x).highRest : columns.get(x).lowRest);
            }
        }
        return from;
    }

    private void empty(int i) {
        Model.Row row = rows.get(i);
        if (row.terms.isEmpty()) {
            if (row.kind == 0 ? 0 <= row.right : row.right == 0) {
                gone(i);
            } else {
                impossible(row.rest);
            }
        }
    }

    private void shared(int i) {
        Model.Row row = rows.get(i);
        if (row.terms.isEmpty()) {
            return;
        }
        BigInteger shared = BigInteger.ZERO;
        for (long a : row.terms.values()) {
            shared = shared.gcd(BigInteger.valueOf(a));
        }
        long g = shared.longValueExact();
        if (row.kind == 1 && row.right % g != 0) {
            impossible(row.rest);
        }
        boolean done = g > 1;
        row.terms.replaceAll((x, a) -> a / g);
        row.right = down(row.right, g);
        if (row.kind == 1 && row.terms.firstEntry().getValue() < 0) {
            row.terms.replaceAll((x, a) -> -a);
            row.right = -row.right;
            done = true;
        }
        if (done) {
            anew(i);
        }
    }

    private void single(int i) {
        Model.Row row = rows.get(i);
        if (row.terms.size() != 1) {
            return;
        }
        int x = row.terms.firstKey();
        long a = row.terms.get(x);
        if (row.kind == 1 && row.right % a != 0) {
            impossible(row.rest);
        }
        if (row.kind == 1 || a < 0) {
            narrowLow(i, x, up(row.right, a), row.rest);
        }
        if (row.kind == 1 || a > 0) {
            narrowHigh(i, x, down(row.right, a), row.rest);
        }
        gone(i);
    }

    private void span(int i) {
        Model.Row row = rows.get(i);
        long least = least(row, -1);
        long greatest = greatest(row, -1);
        if (least > row.right) {
            impossible(join(row.rest, leastFrom(row, -1)));
        } else if (row.kind == 1 && greatest < row.right) {
            impossible(join(row.rest, greatestFrom(row, -1)));
        } else if (row.kind == 0 && greatest <= row.right) {
            gone(i);
        } else if (least == row.right) {
            TreeSet<Integer> rest = join(row.rest, leastFrom(row, -1));
            row.terms.forEach((x, a) -> narrowToSide(i, x, a > 0, rest));
            gone(i);
        } else if (row.kind == 1 && greatest == row.right) {
            TreeSet<Integer> rest = join(row.rest, greatestFrom(row, -1));
            row.terms.forEach((x, a) -> narrowToSide(i, x, a < 0, rest));
            gone(i);
        }
    }

    private void narrowToSide(int i, int x, boolean toLow, TreeSet<Integer> rest) {
        if (toLow) {
            narrowHigh(i, x, columns.get(x).low, rest);
        } else {
            narrowLow(i, x, columns.get(x).high, rest);
        }
    }

    private void tight(int i) {
        Model.Row row = rows.get(i);
        for (int x : row.terms.keySet()) {
            long a = row.terms.get(x);
            long l = Model.minus(row.right, least(row, x));
            if (a > 0) {
                narrowHigh(i, x, down(l, a), join(row.rest, leastFrom(row, x)));
            } else {
                narrowLow(i, x, up(l, a), join(row.rest, leastFrom(row, x)));
            }
            long g = Model.minus(row.right, greatest(row, x));
            if (row.kind == 1 && a > 0) {
                narrowLow(i, x, up(g, a), join(row.rest, greatestFrom(row, x)));
            } else if (row.kind == 1) {
                narrowHigh(i, x, down(g, a), join(row.rest, greatestFrom(row, x)));
            }
        }
    }

    private void fix(int x) {
        Model.Column column = columns.get(x);
        if (column.low != column.high) {
            return;
        }
        long n = column.low;
        for (Model.Row row : rows) {
            if (!row.gone && row.terms.containsKey(x)) {
                row.right = Model.minus(row.right, Model.times(row.terms.remove(x), n));
                row.rest = join(row.rest, column.lowRest, column.highRest);
            }
        }
        offset = Model.plus(offset, Model.times(n, column.cost));
        column.state = 1;
        act(-1, x, FIXED, n);
    }

    private void twins(int i) {
        Model.Row row = rows.get(i);
        for (int k = i + 1; k < rows.size() && !row.terms.isEmpty(); k++) {
            Model.Row other = rows.get(k);
            if (!row.gone && !other.gone) {
                if (row.terms.equals(other.terms)) {
                    alike(i, k);
                } else if (row.kind == 0 && other.kind == 0 && turned(other).equals(row.terms)) {
                    opposite(i, k);
                }
            }
        }
    }

    private static Map<Integer, Long> turned(Model.Row row) {
        Map<Integer, Long> turned = new TreeMap<>(row.terms);
        turned.replaceAll((x, a) -> -a);
        return turned;
    }

    private void alike(int i, int k) {
        Model.Row row = rows.get(i);
        Model.Row other = rows.get(k);
        if (row.kind == 0 && other.kind == 0) {
            gone(row.right > other.right ? i : k);
        } else if (row.kind == 1 && other.kind == 1) {
            if (row.right != other.right) {
                impossible(join(row.rest, other.rest));
            }
            gone(k);
        } else {
            Model.Row atMost = row.kind == 0 ? row : other;
            Model.Row equal = row.kind == 0 ? other : row;
            if (atMost.right < equal.right) {
                impossible(join(row.rest, other.rest));
            }
            gone(row.kind == 0 ? i : k);
        }
    }

    private void opposite(int i, int k) {
        Model.Row row = rows.get(i);
        Model.Row other = rows.get(k);
        long sum = Model.plus(row.right, other.right);
        if (sum < 0) {
            impossible(join(row.rest, other.rest));
        } else if (sum == 0) {
            row.kind = 1;
            row.rest = join(row.rest, other.rest);
            anew(i);
            gone(k);
        }
    }

    private void side(int x) {
        Model.Column column = columns.get(x);
        if (column.low >= column.high) {
            return;
        }
        boolean allAbove = true;
        boolean allBelow = true;
        for (Model.Row row : rows) {
            if (!row.gone && row.terms.containsKey(x)) {
                allAbove &= row.terms.get(x) > 0 && row.kind == 0;
                allBelow &= row.terms.get(x) < 0 && row.kind == 0;
            }
        }
        TreeSet<Integer> all = new TreeSet<>();
        for (int row = 0; row < rows.size(); row++) {
            all.add(row);
        }
        if (column.cost >= 0 && allAbove) {
            narrowHigh(-1, x, column.low, all);
        } else if (column.cost <= 0 && allBelow) {
            narrowLow(-1, x, column.high, all);
        }
    }

    private static boolean beyond(long number, long limit) {
        return Math.abs(number) > limit;
    }

    private void putIn(int i) {
        Model.Row row = rows.get(i);
        if (row.kind != 1 || row.terms.size() != 2) {
            return;
        }
        int x = row.terms.lastKey();
        if (Math.abs(row.terms.get(x)) != 1) {
            x = row.terms.firstKey();
        }
        if (Math.abs(row.terms.get(x)) != 1) {
            return;
        }
        int y = x == row.terms.firstKey() ? row.terms.lastKey() : row.terms.firstKey();
        long s = row.terms.get(x);
        long q = -s * row.terms.get(y);
        long shift = Model.times(s, row.right);
        if (goesBeyond(i, x, y, q, shift)) {
            return;
        }
        TreeSet<Integer> byLow = join(row.rest, columns.get(x).lowRest);
        TreeSet<Integer> byHigh = join(row.rest, columns.get(x).highRest);
        long fromLow = Model.minus(columns.get(x).low, shift);
        long fromHigh = Model.minus(columns.get(x).high, shift);
        if (q > 0) {
            narrowLow(i, y, up(fromLow, q), byLow);
            narrowHigh(i, y, down(fromHigh, q), byHigh);
        } else {
            narrowHigh(i, y, down(fromLow, q), byLow);
            narrowLow(i, y, up(fromHigh, q), byHigh);
        }
        for (Model.Row other : rows) {
            if (other != row && !other.gone && other.terms.containsKey(x)) {
                long d = other.terms.remove(x);
                long sum = Model.plus(other.terms.getOrDefault(y, 0L), Model.times(d, q));
                other.terms.put(y, sum);
                other.terms.values().removeIf(a -> a == 0);
                other.right = Model.minus(other.right, Model.times(d, shift));
                other.rest = join(other.rest, row.rest);
            }
        }
        take(i, x, shift);
    }

    private boolean goesBeyond(int i, int x, int y, long q, long shift) {
        boolean beyond = beyond(Model.plus(columns.get(y).cost, Model.times(q, columns.get(x).cost)), 1000000)
                || beyond(Model.times(shift, columns.get(x).cost), 1000000000000000L);
        for (Model.Row other : rows) {
            if (other != rows.get(i) && !other.gone && other.terms.containsKey(x)) {
                long d = other.terms.get(x);
                beyond |= beyond(Model.plus(other.terms.getOrDefault(y, 0L), Model.times(d, q)), 1000000);
                beyond |= beyond(Model.minus(other.right, Model.times(d, shift)), 100000000000L);
            }
        }
        return beyond;
    }

    /** COSTS and OFFSET of PUT IN and FREE: x is shift less the sum of s b y for the row's other terms b y. */
    private void take(int i, int x, long shift) {
        Model.Row row = rows.get(i);
        long s = row.terms.get(x);
        Given found = new Given();
        found.x = x;
        found.number = shift;
        for (int y : row.terms.keySet()) {
            if (y != x) {
                long factor = -s * row.terms.get(y);
                found.factors.put(y, factor);
                columns.get(y).cost = Model.plus(columns.get(y).cost, Model.times(factor, columns.get(x).cost));
            }
        }
        offset = Model.plus(offset, Model.times(shift, columns.get(x).cost));
        given.add(found);
        columns.get(x).state = 2;
        row.gone = true;
        act(i, x, PUT_IN, shift);
    }

    private void less(int i) {
        Model.Row row = rows.get(i);
        if (row.kind != 0) {
            return;
        }
        for (int x : row.terms.keySet()) {
            Model.Column column = columns.get(x);
            if (column.low == 0 && column.high == 1) {
                long a = row.terms.get(x);
                long g = greatest(row, x);
                boolean above = a > 0 && g < row.right && g + a > row.right;
                boolean below = a < 0 && g + a < row.right && g > row.right;
                if (above || below) {
                    row.rest = join(row.rest, greatestFrom(row, x), column.lowRest, column.highRest);
                    row.terms.put(x, above ? a - (row.right - g) : row.right - g);
                    row.right = above ? g : row.right;
                    anew(i);
                }
            }
        }
    }

    private void free(int x) {
        int i = -1;
        int found = 0;
        for (int k = 0; k < rows.size(); k++) {
            if (!rows.get(k).gone && rows.get(k).terms.containsKey(x)) {
                i = k;
                found++;
            }
        }
        if (found != 1 || rows.get(i).kind != 1 || rows.get(i).terms.size() < 2) {
            return;
        }
        Model.Row row = rows.get(i);
        long s = row.terms.get(x);
        if (s != 1 && s != -1) {
            return;
        }
        long l = least(row, x);
        long g = greatest(row, x);
        long from = s == 1 ? row.right - g : l - row.right;
        long to = s == 1 ? row.right - l : g - row.right;
        long shift = Model.times(s, row.right);
        boolean beyond = beyond(Model.times(shift, columns.get(x).cost), 1000000000000000L);
        for (int y : row.terms.keySet()) {
            long less = y == x ? 0 : Model.times(s * row.terms.get(y), columns.get(x).cost);
            beyond |= y != x && beyond(Model.minus(columns.get(y).cost, less), 1000000);
        }
        if (columns.get(x).low <= from && to <= columns.get(x).high && !beyond) {
            take(i, x, shift);
        }
    }

    /** Fills in the columns that are not THERE. */
    void turnBack(List<Long> point) {
        for (int x = 0; x < point.size(); x++) {
            if (columns.get(x).state == 1) {
                point.set(x, columns.get(x).low);
            }
        }
        for (int i = given.size() - 1; i >= 0; i--) {
            long number = given.get(i).number;
            for (int y : given.get(i).factors.keySet()) {
                number = Model.plus(number, Model.times(given.get(i).factors.get(y), point.get(y)));
            }
            point.set(given.get(i).x, number);
        }
    }
}
