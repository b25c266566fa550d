import java.util.ArrayList;
import java.util.Comparator;
import java.util.List;
import java.util.Map;
import java.util.TreeMap;
import java.util.TreeSet;

/**
 * The document written down a second time, sentence by sentence and without regard to speed, for ModelTest. It has
 * the methods of the face; its sums and products are exact, so that a number too great for a long would be seen.
 */
public final class Model {
    private final List<Column> wholeColumns = new ArrayList<>();
    private final List<Row> wholeRows = new ArrayList<>();
    private ModelSmall small = null;
    private Map<Integer, Long> put = new TreeMap<>();
    private List<Long> turned = null;
    private List<Long> best = null;
    private long bestValue = 0;

    /** A column of the whole or of the small. */
    static final class Column {
        long low;
        long high;
        long cost;
        int state = 0;
        TreeSet<Integer> lowRest = new TreeSet<>();
        TreeSet<Integer> highRest = new TreeSet<>();

        Column(long low, long high, long cost) {
            this.low = low;
            this.high = high;
            this.cost = cost;
        }

        boolean isThere() {
            return state == 0;
        }
    }

    /** A row of the whole or of the small, with no coefficients but those of its TERMS. */
    static final class Row {
        int kind;
        long right;
        boolean gone = false;
        TreeMap<Integer, Long> terms = new TreeMap<>();
        TreeSet<Integer> rest = new TreeSet<>();

        Row(int kind, long right) {
            this.kind = kind;
            this.right = right;
        }

        boolean holds(List<Long> point) {
            long sum = 0;
            for (Map.Entry<Integer, Long> term : terms.entrySet()) {
                sum = plus(sum, times(term.getValue(), point.get(term.getKey())));
            }
            return kind == 0 ? sum <= right : sum == right;
        }
    }

    static long plus(long a, long b) {
        return Math.addExact(a, b);
    }

    static long minus(long a, long b) {
        return Math.subtractExact(a, b);
    }

    static long times(long a, long b) {
        return Math.multiplyExact(a, b);
    }

    private static void state(boolean asDue) {
        if (!asDue) {
            throw new IllegalStateException();
        }
    }

    private static void argument(boolean asDue) {
        if (!asDue) {
            throw new IllegalArgumentException();
        }
    }

    private static void index(int i, int count) {
        if (i < 0 || i >= count) {
            throw new IndexOutOfBoundsException();
        }
    }

    private static boolean within(long number, long limit) {
        return -limit <= number && number <= limit;
    }

    private void endPoints() {
        put = new TreeMap<>();
        turned = null;
        best = null;
    }

    public int column(int low, int high, int cost) {
        state(wholeColumns.size() < 12);
        argument(within(low, 10000) && within(high, 10000) && low <= high && within(cost, 1000));
        small = null;
        endPoints();
        wholeColumns.add(new Column(low, high, cost));
        return wholeColumns.size() - 1;
    }

    public int row(int kind, int right) {
        state(wholeRows.size() < 12);
        argument((kind == 0 || kind == 1) && within(right, 1000000));
        small = null;
        endPoints();
        wholeRows.add(new Row(kind, right));
        return wholeRows.size() - 1;
    }

    public void term(int row, int column, int a) {
        index(row, wholeRows.size());
        index(column, wholeColumns.size());
        argument(within(a, 1000));
        small = null;
        endPoints();
        wholeRows.get(row).terms.remove(column);
        if (a != 0) {
            wholeRows.get(row).terms.put(column, (long) a);
        }
    }

    public int clear() {
        int columns = wholeColumns.size();
        small = null;
        endPoints();
        wholeColumns.clear();
        wholeRows.clear();
        return columns;
    }

    public int shrink(int rules, int rounds) {
        argument(0 <= rules && rules <= 2047 && 1 <= rounds && rounds <= 50);
        endPoints();
        small = new ModelSmall(wholeColumns, wholeRows);
        return small.shrink(rules, rounds);
    }

    public int state(int column) {
        return columnOf(column).state;
    }

    public int bound(int column, boolean high) {
        Column found = columnOf(column);
        return Math.toIntExact(high ? found.high : found.low);
    }

    public int cost(int column) {
        Column found = columnOf(column);
        return found.isThere() ? Math.toIntExact(found.cost) : 0;
    }

    public int kind(int row) {
        Row found = rowOf(row);
        return found.gone ? -1 : found.kind;
    }

    public long right(int row) {
        return rowOf(row).right;
    }

    public int coefficient(int row, int column) {
        Row found = rowOf(row);
        Column of = columnOf(column);
        return found.gone || !of.isThere() ? 0 : Math.toIntExact(found.terms.getOrDefault(column, 0L));
    }

    public long offset() {
        state(small != null);
        return small.offset;
    }

    public int rest(int which, int k) {
        state(small != null);
        argument(0 <= which && which <= 2);
        if (which == 0) {
            return bits(rowOf(k).rest);
        }
        return bits(which == 1 ? columnOf(k).lowRest : columnOf(k).highRest);
    }

    public int certificate() {
        state(small != null);
        return small.certificate == null ? -1 : bits(small.certificate);
    }

    public int certified() {
        state(small != null && small.certificate != null);
        if (countPoints(wholeColumns) > 4000) {
            return -1;
        }
        for (List<Long> point : points(wholeColumns)) {
            boolean all = true;
            for (int row : small.certificate) {
                all &= wholeRows.get(row).holds(point);
            }
            if (all) {
                return 0;
            }
        }
        return 1;
    }

    public int acts() {
        state(small != null);
        return small.acts.size();
    }

    public long act(int i, int what) {
        state(small != null);
        index(i, Math.min(small.acts.size(), 400));
        argument(0 <= what && what <= 4);
        return small.acts.get(i)[what];
    }

    public int parts() {
        state(small != null);
        TreeMap<Integer, Integer> partOf = new TreeMap<>();
        for (int column = 0; column < small.columns.size(); column++) {
            if (small.columns.get(column).isThere()) {
                partOf.put(column, column);
            }
        }
        for (Row row : small.rows) {
            for (int column : row.gone ? new TreeSet<Integer>() : row.terms.keySet()) {
                int from = partOf.get(column);
                int to = partOf.get(row.terms.firstKey());
                partOf.replaceAll((any, part) -> part == from ? to : part);
            }
        }
        return new TreeSet<>(partOf.values()).size();
    }

    public int clique(int row) {
        rowOf(row);
        return cliqueOf(row).size();
    }

    public int cliqueAt(int row, int i) {
        rowOf(row);
        List<Integer> clique = cliqueOf(row);
        index(i, clique.size());
        int column = clique.get(i);
        return column * 2 + (small.rows.get(row).terms.get(column) > 0 ? 1 : 0);
    }

    private List<Integer> cliqueOf(int number) {
        Row row = small.rows.get(number);
        List<Integer> ordered = new ArrayList<>();
        if (row.gone) {
            return ordered;
        }
        for (int column : row.terms.keySet()) {
            if (small.columns.get(column).low == 0 && small.columns.get(column).high == 1) {
                ordered.add(column);
            }
        }
        ordered.sort(Comparator.comparing((Integer column) -> -Math.abs(row.terms.get(column))));
        for (int length = ordered.size(); length >= 2; length--) {
            long last = Math.abs(row.terms.get(ordered.get(length - 1)));
            long before = Math.abs(row.terms.get(ordered.get(length - 2)));
            if (last + before > minus(row.right, small.least(row, -1))) {
                return ordered.subList(0, length);
            }
        }
        return new ArrayList<>();
    }

    public boolean same(int column, int other) {
        Column a = columnOf(column);
        Column b = columnOf(other);
        boolean same = a.isThere() && b.isThere() && a.low == b.low && a.high == b.high && a.cost == b.cost;
        for (int row = 0; row < small.rows.size(); row++) {
            same &= coefficient(row, column) == coefficient(row, other);
        }
        return same;
    }

    public void put(int column, int number) {
        state(small != null && small.certificate == null);
        Column found = columnOf(column);
        argument(found.isThere() && found.low <= number && number <= found.high);
        put.put(column, (long) number);
    }

    public int back() {
        state(small != null && small.certificate == null);
        List<Long> point = new ArrayList<>();
        for (int column = 0; column < small.columns.size(); column++) {
            state(!small.columns.get(column).isThere() || put.containsKey(column));
            point.add(put.get(column));
        }
        small.turnBack(point);
        turned = point;
        boolean fits = true;
        for (int column = 0; column < point.size(); column++) {
            Column told = wholeColumns.get(column);
            fits &= told.low <= point.get(column) && point.get(column) <= told.high;
        }
        for (Row row : wholeRows) {
            fits &= row.holds(point);
        }
        return fits ? 1 : 0;
    }

    public int at(int column) {
        state(turned != null);
        index(column, wholeColumns.size());
        return Math.toIntExact(turned.get(column));
    }

    public long value() {
        state(turned != null);
        return valueOf(wholeColumns, turned);
    }

    public int best(boolean ofSmall) {
        state(!ofSmall || small != null);
        best = null;
        if (ofSmall && small.certificate != null) {
            return 0;
        }
        List<Column> columns = ofSmall ? small.columns : wholeColumns;
        if (countPoints(columns) > 4000) {
            return -1;
        }
        for (List<Long> point : points(columns)) {
            boolean fits = true;
            for (Row row : ofSmall ? small.rows : wholeRows) {
                fits &= row.gone || row.holds(point);
            }
            long value = plus(ofSmall ? small.offset : 0, valueOf(columns, point));
            if (fits && (best == null || value < bestValue)) {
                best = point;
                bestValue = value;
            }
        }
        return best == null ? 0 : 1;
    }

    public long bestValue() {
        state(best != null);
        return bestValue;
    }

    public int bestAt(int column) {
        state(best != null);
        index(column, wholeColumns.size());
        return Math.toIntExact(best.get(column));
    }

    private Column columnOf(int column) {
        state(small != null);
        index(column, wholeColumns.size());
        return small.columns.get(column);
    }

    private Row rowOf(int row) {
        state(small != null);
        index(row, wholeRows.size());
        return small.rows.get(row);
    }

    private static int bits(TreeSet<Integer> rest) {
        int bits = 0;
        for (int row : rest) {
            bits += 1 << row;
        }
        return bits;
    }

    private static double countPoints(List<Column> columns) {
        double points = 1;
        for (Column column : columns) {
            points *= column.isThere() ? column.high - column.low + 1 : 1;
        }
        return points;
    }

    /** All points, the first by column 0, 1, .. first; 0 for a column that is not THERE. */
    private static List<List<Long>> points(List<Column> columns) {
        List<List<Long>> points = new ArrayList<>();
        points.add(new ArrayList<>());
        for (Column column : columns) {
            List<List<Long>> longer = new ArrayList<>();
            for (List<Long> point : points) {
                long low = column.isThere() ? column.low : 0;
                long high = column.isThere() ? column.high : 0;
                for (long number = low; number <= high; number++) {
                    List<Long> next = new ArrayList<>(point);
                    next.add(number);
                    longer.add(next);
                }
            }
            points = longer;
        }
        return points;
    }

    private static long valueOf(List<Column> columns, List<Long> point) {
        long value = 0;
        for (int column = 0; column < point.size(); column++) {
            value = plus(value, columns.get(column).isThere() ? times(point.get(column), columns.get(column).cost) : 0);
        }
        return value;
    }
}
