/**
 * Rows of whole numbers made smaller: the whole is told by columns and rows, eleven rules make the small of it,
 * and points of the small are turned back to points of the whole.
 */
public final class RowPresolve {
    public static final int NONE = -1;

    private static final int MOST = 12;
    private static final int MOST_BOUND = 10000;
    private static final int MOST_COST = 1000;
    private static final int MOST_RIGHT = 1000000;
    private static final int MOST_COEFFICIENT = 1000;
    private static final int MOST_POINTS = 4000;

    private static final int RULES = 11;
    private static final int ALL_RULES = 2047;
    private static final int MOST_ROUNDS = 50;

    // What a rule that puts a column in may make of the others at most.
    private static final long SMALL_COEFFICIENT = 1000000L;
    private static final long SMALL_RIGHT = 100000000000L;
    private static final long SMALL_SHIFT = 1000000000000000L;

    // Euclid's steps for numbers up to a million stay far below this.
    private static final int EUCLID_STEPS = 100;

    private static final int AT_MOST = 0;
    private static final int EQUAL = 1;

    private static final int THERE = 0;
    private static final int FIXED = 1;
    private static final int PUT_IN = 2;

    private static final int KEPT_ACTS = 400;
    private static final int ACT_NUMBERS = 5;
    private static final int ACT_GONE = 0;
    private static final int ACT_LOW = 1;
    private static final int ACT_HIGH = 2;
    private static final int ACT_ANEW = 3;
    private static final int ACT_FIXED = 4;
    private static final int ACT_PUT_IN = 5;

    private final Table whole = new Table();
    private final Small small = new Small();
    private final Rounds rounder = new Rounds(small);
    private final Looks looks = new Looks(small);
    private final Walk walk = new Walk(whole);
    private boolean hasSmall;

    private final long[] putNumbers = new long[MOST];
    private int putColumns;
    private final long[] turned = new long[MOST];
    private boolean hasTurned;
    private final long[] bestNumbers = new long[MOST];
    private long leastValue;
    private boolean hasBest;

    public RowPresolve() {
    }

    public int column(int low, int high, int cost) throws IllegalStateException, IllegalArgumentException {
        if (whole.columns >= MOST) {
            throw new IllegalStateException("there are 12 columns");
        }
        if (beyond(low, MOST_BOUND) || beyond(high, MOST_BOUND) || low > high || beyond(cost, MOST_COST)) {
            throw new IllegalArgumentException("a bound or the cost is not as told");
        }
        endSmall();
        int column = whole.columns;
        whole.low[column] = low;
        whole.high[column] = high;
        whole.cost[column] = cost;
        whole.columns = column + 1;
        return column;
    }

    public int row(int kind, int right) throws IllegalStateException, IllegalArgumentException {
        if (whole.rows >= MOST) {
            throw new IllegalStateException("there are 12 rows");
        }
        if ((kind != AT_MOST && kind != EQUAL) || beyond(right, MOST_RIGHT)) {
            throw new IllegalArgumentException("the kind or the right is not as told");
        }
        endSmall();
        int row = whole.rows;
        whole.kind[row] = kind;
        whole.right[row] = right;
        whole.rows = row + 1;
        return row;
    }

    public void term(int row, int column, int a) throws IndexOutOfBoundsException, IllegalArgumentException {
        needRow(row);
        needColumn(column);
        if (beyond(a, MOST_COEFFICIENT)) {
            throw new IllegalArgumentException("the coefficient is not -1000 .. 1000");
        }
        endSmall();
        whole.a[row][column] = a;
    }

    public int clear() {
        endSmall();
        int columns = whole.columns;
        whole.makeEmpty();
        return columns;
    }

    public int shrink(int rules, int rounds) throws IllegalArgumentException {
        if (rules < 0 || rules > ALL_RULES || rounds < 1 || rounds > MOST_ROUNDS) {
            throw new IllegalArgumentException("rules are not 0 .. 2047, or rounds not 1 .. 50");
        }
        endPoints();
        hasSmall = true;
        small.beginAs(whole);
        int done = 0;
        boolean acted = true;
        while (done < rounds && acted) {
            int before = small.acts.count;
            if (!rounder.doRound(rules)) {
                return 0;
            }
            acted = small.acts.count > before;
            done++;
        }
        return done;
    }

    public int state(int column) throws IllegalStateException, IndexOutOfBoundsException {
        needSmall();
        needColumn(column);
        return small.table.state[column];
    }

    public int bound(int column, boolean high) throws IllegalStateException, IndexOutOfBoundsException {
        needSmall();
        needColumn(column);
        return (int) (high ? small.table.high[column] : small.table.low[column]);
    }

    public int cost(int column) throws IllegalStateException, IndexOutOfBoundsException {
        needSmall();
        needColumn(column);
        return small.table.isThere(column) ? (int) small.table.cost[column] : 0;
    }

    public int kind(int row) throws IllegalStateException, IndexOutOfBoundsException {
        needSmall();
        needRow(row);
        return small.table.kind[row];
    }

    public long right(int row) throws IllegalStateException, IndexOutOfBoundsException {
        needSmall();
        needRow(row);
        return small.table.right[row];
    }

    public int coefficient(int row, int column) throws IllegalStateException, IndexOutOfBoundsException {
        needSmall();
        needRow(row);
        needColumn(column);
        if (small.table.isGone(row) || !small.table.isThere(column)) {
            return 0;
        }
        return (int) small.table.a[row][column];
    }

    public long offset() throws IllegalStateException {
        needSmall();
        return small.offset;
    }

    public int rest(int which, int k)
            throws IllegalStateException, IllegalArgumentException, IndexOutOfBoundsException {
        needSmall();
        if (which < 0 || which > 2) {
            throw new IllegalArgumentException("which is not 0, 1, 2");
        }
        if (which == 0) {
            needRow(k);
            return small.rowRest[k];
        }
        needColumn(k);
        return which == 1 ? small.lowRest[k] : small.highRest[k];
    }

    public int certificate() throws IllegalStateException {
        needSmall();
        return small.certificate;
    }

    public int certified() throws IllegalStateException {
        needSmall();
        if (!small.isImpossible()) {
            throw new IllegalStateException("the small is not impossible");
        }
        int points = whole.countPoints();
        if (points == NONE) {
            return NONE;
        }
        walk.beginAt(whole);
        for (int i = 0; i < points; i++) {
            if (walk.holdsAll(small.certificate)) {
                return 0;
            }
            walk.goOn();
        }
        return 1;
    }

    public int acts() throws IllegalStateException {
        needSmall();
        return small.acts.count;
    }

    public long act(int i, int what)
            throws IllegalStateException, IndexOutOfBoundsException, IllegalArgumentException {
        needSmall();
        if (i < 0 || i >= small.acts.countKept()) {
            throw new IndexOutOfBoundsException("no such act is kept");
        }
        if (what < 0 || what >= ACT_NUMBERS) {
            throw new IllegalArgumentException("what is not 0 .. 4");
        }
        return small.acts.numbers[i * ACT_NUMBERS + what];
    }

    public int parts() throws IllegalStateException {
        needSmall();
        return looks.countParts();
    }

    public int clique(int row) throws IllegalStateException, IndexOutOfBoundsException {
        needSmall();
        needRow(row);
        return looks.findClique(row);
    }

    public int cliqueAt(int row, int i) throws IllegalStateException, IndexOutOfBoundsException {
        needSmall();
        needRow(row);
        if (i < 0 || i >= looks.findClique(row)) {
            throw new IndexOutOfBoundsException("no such place in the clique");
        }
        int column = looks.order[i];
        return column * 2 + (small.table.a[row][column] > 0 ? 1 : 0);
    }

    public boolean same(int column, int other) throws IllegalStateException, IndexOutOfBoundsException {
        needSmall();
        needColumn(column);
        needColumn(other);
        return looks.areSame(column, other);
    }

    public void put(int column, int number)
            throws IllegalStateException, IndexOutOfBoundsException, IllegalArgumentException {
        needPossibleSmall();
        needColumn(column);
        Table table = small.table;
        if (!table.isThere(column) || number < table.low[column] || number > table.high[column]) {
            throw new IllegalArgumentException("the column is not there, or the number not within its bounds");
        }
        putNumbers[column] = number;
        putColumns |= 1 << column;
    }

    public int back() throws IllegalStateException {
        needPossibleSmall();
        for (int column = 0; column < whole.columns; column++) {
            if (small.table.isThere(column) && ((putColumns >> column) & 1) == 0) {
                throw new IllegalStateException("a column that is there was not put");
            }
        }
        small.turnBack(putNumbers, turned);
        hasTurned = true;
        return whole.isFitting(turned) ? 1 : 0;
    }

    public int at(int column) throws IllegalStateException, IndexOutOfBoundsException {
        needTurned();
        needColumn(column);
        return (int) turned[column];
    }

    public long value() throws IllegalStateException {
        needTurned();
        long sum = 0;
        for (int column = 0; column < whole.columns; column++) {
            sum += turned[column] * whole.cost[column];
        }
        return sum;
    }

    public int best(boolean small) throws IllegalStateException {
        if (small) {
            needSmall();
        }
        hasBest = false;
        if (small && this.small.isImpossible()) {
            return 0;
        }
        Table table = small ? this.small.table : whole;
        int points = table.countPoints();
        if (points == NONE) {
            return NONE;
        }
        findBest(table, points, small ? this.small.offset : 0);
        return hasBest ? 1 : 0;
    }

    public long bestValue() throws IllegalStateException {
        needBest();
        return leastValue;
    }

    public int bestAt(int column) throws IllegalStateException, IndexOutOfBoundsException {
        needBest();
        needColumn(column);
        return (int) bestNumbers[column];
    }

    private static boolean beyond(long number, long limit) {
        return number < -limit || number > limit;
    }

    private void needColumn(int column) {
        if (column < 0 || column >= whole.columns) {
            throw new IndexOutOfBoundsException("there is no such column");
        }
    }

    private void needRow(int row) {
        if (row < 0 || row >= whole.rows) {
            throw new IndexOutOfBoundsException("there is no such row");
        }
    }

    private void needSmall() {
        if (!hasSmall) {
            throw new IllegalStateException("there is no small");
        }
    }

    private void needPossibleSmall() {
        if (!hasSmall || small.isImpossible()) {
            throw new IllegalStateException("there is no small, or it is impossible");
        }
    }

    private void needTurned() {
        if (!hasTurned) {
            throw new IllegalStateException("no point was turned back");
        }
    }

    private void needBest() {
        if (!hasBest) {
            throw new IllegalStateException("no best was found");
        }
    }

    private void endSmall() {
        hasSmall = false;
        endPoints();
    }

    private void endPoints() {
        putColumns = 0;
        hasTurned = false;
        hasBest = false;
    }

    /** The walk goes by column 0, 1, .., so of points of the same value the one found first stays. */
    private void findBest(Table table, int points, long offset) {
        walk.beginAt(table);
        for (int i = 0; i < points; i++) {
            long value = offset + walk.sum;
            if ((!hasBest || value < leastValue) && walk.holdsAll(table.allRows())) {
                hasBest = true;
                leastValue = value;
                System.arraycopy(walk.numbers, 0, bestNumbers, 0, MOST);
            }
            walk.goOn();
        }
    }

    /** Columns and rows, of the whole or of the small. A row that is gone has the kind NONE. */
    private static final class Table {
        final long[] low = new long[MOST];
        final long[] high = new long[MOST];
        final long[] cost = new long[MOST];
        final int[] state = new int[MOST];
        final int[] kind = new int[MOST];
        final long[] right = new long[MOST];
        // Of a column that is not there the coefficients are 0 in all rows that are there.
        final long[][] a = new long[MOST][MOST];
        int columns;
        int rows;

        boolean isThere(int column) {
            return state[column] == THERE;
        }

        boolean isGone(int row) {
            return kind[row] == NONE;
        }

        int allRows() {
            return (1 << rows) - 1;
        }

        void makeEmpty() {
            columns = 0;
            rows = 0;
            // A column or row that is told later must begin with coefficients 0.
            for (int row = 0; row < MOST; row++) {
                for (int column = 0; column < MOST; column++) {
                    a[row][column] = 0;
                }
            }
        }

        void copyFrom(Table other) {
            columns = other.columns;
            rows = other.rows;
            System.arraycopy(other.low, 0, low, 0, MOST);
            System.arraycopy(other.high, 0, high, 0, MOST);
            System.arraycopy(other.cost, 0, cost, 0, MOST);
            System.arraycopy(other.state, 0, state, 0, MOST);
            System.arraycopy(other.kind, 0, kind, 0, MOST);
            System.arraycopy(other.right, 0, right, 0, MOST);
            for (int row = 0; row < MOST; row++) {
                System.arraycopy(other.a[row], 0, a[row], 0, MOST);
            }
        }

        /** The first term of a row from a column on; NONE if there is none. */
        int nextTerm(int row, int from) {
            for (int column = from; column < columns; column++) {
                if (a[row][column] != 0) {
                    return column;
                }
            }
            return NONE;
        }

        int countTerms(int row) {
            int terms = 0;
            for (int column = 0; column < columns; column++) {
                if (a[row][column] != 0) {
                    terms++;
                }
            }
            return terms;
        }

        boolean isUnit(int row, int column) {
            return a[row][column] == 1 || a[row][column] == -1;
        }

        boolean isBinary(int column) {
            return low[column] == 0 && high[column] == 1;
        }

        /** NONE when there are more than MOST_POINTS. */
        int countPoints() {
            long points = 1;
            for (int column = 0; column < columns; column++) {
                if (isThere(column)) {
                    points *= high[column] - low[column] + 1;
                }
                if (points > MOST_POINTS) {
                    return NONE;
                }
            }
            return (int) points;
        }

        boolean isHolding(int row, long sum) {
            return isGone(row) || sum == right[row] || (kind[row] == AT_MOST && sum < right[row]);
        }

        boolean isFitting(long[] numbers) {
            for (int column = 0; column < columns; column++) {
                if (numbers[column] < low[column] || numbers[column] > high[column]) {
                    return false;
                }
            }
            for (int row = 0; row < rows; row++) {
                long sum = 0;
                for (int column = 0; column < columns; column++) {
                    sum += a[row][column] * numbers[column];
                }
                if (!isHolding(row, sum)) {
                    return false;
                }
            }
            return true;
        }
    }

    /** Goes through the points of a table, the last column first; sums follow each step, so that none is made anew. */
    private static final class Walk {
        final long[] numbers = new long[MOST];
        final long[] rowSums = new long[MOST];
        long sum;
        Table table;

        Walk(Table first) {
            table = first;
        }

        void beginAt(Table begun) {
            table = begun;
            sum = 0;
            for (int i = 0; i < MOST; i++) {
                numbers[i] = 0;
                rowSums[i] = 0;
            }
            for (int column = 0; column < table.columns; column++) {
                if (table.isThere(column)) {
                    step(column, table.low[column]);
                }
            }
        }

        /** To the next point; behind the last one it begins again. */
        void goOn() {
            for (int column = table.columns - 1; column >= 0; column--) {
                if (table.isThere(column)) {
                    if (numbers[column] < table.high[column]) {
                        step(column, 1);
                        return;
                    }
                    step(column, table.low[column] - table.high[column]);
                }
            }
        }

        boolean holdsAll(int rowSet) {
            for (int row = 0; row < table.rows; row++) {
                if (((rowSet >> row) & 1) != 0 && !table.isHolding(row, rowSums[row])) {
                    return false;
                }
            }
            return true;
        }

        private void step(int column, long by) {
            numbers[column] += by;
            sum += by * table.cost[column];
            for (int row = 0; row < table.rows; row++) {
                rowSums[row] += by * table.a[row][column];
            }
        }
    }

    /** The record of acts: all are counted, the first ones are kept. */
    private static final class Acts {
        final long[] numbers = new long[KEPT_ACTS * ACT_NUMBERS];
        int count;

        int countKept() {
            return count < KEPT_ACTS ? count : KEPT_ACTS;
        }

        void note(int rule, int row, int column, int what, long number) {
            if (count < KEPT_ACTS) {
                int from = count * ACT_NUMBERS;
                numbers[from] = rule;
                numbers[from + 1] = row;
                numbers[from + 2] = column;
                numbers[from + 3] = what;
                numbers[from + 4] = number;
            }
            count++;
        }
    }

    /** What is left of the whole, and on which rows of the whole it rests. */
    private static final class Small {
        final Table table = new Table();
        final int[] rowRest = new int[MOST];
        final int[] lowRest = new int[MOST];
        final int[] highRest = new int[MOST];
        final Acts acts = new Acts();
        long offset;
        int certificate = NONE;
        int rule;
        // Column putInColumn[i] is putInShift[i] and the sum of putInFactors[i] times the columns.
        final int[] putInColumn = new int[MOST];
        final long[] putInShift = new long[MOST];
        final long[][] putInFactors = new long[MOST][MOST];
        int putIns;

        void beginAs(Table whole) {
            table.copyFrom(whole);
            for (int i = 0; i < MOST; i++) {
                rowRest[i] = 1 << i;
                lowRest[i] = 0;
                highRest[i] = 0;
            }
            acts.count = 0;
            offset = 0;
            certificate = NONE;
            putIns = 0;
        }

        boolean isImpossible() {
            return certificate != NONE;
        }

        /** Answers false, as each rule does when all ends at once. */
        boolean endAll(int rest) {
            certificate = rest;
            return false;
        }

        void leaveOut(int row) {
            table.kind[row] = NONE;
            acts.note(rule, row, NONE, ACT_GONE, table.right[row]);
        }

        void noteAnew(int row) {
            acts.note(rule, row, NONE, ACT_ANEW, table.right[row]);
        }

        /** The least (or the greatest) sum of a row, one column left out (NONE: none is). */
        long reach(int row, int without, boolean greatest) {
            long sum = 0;
            for (int column = 0; column < table.columns; column++) {
                long a = table.a[row][column];
                if (a != 0 && column != without) {
                    sum += a * ((a > 0) == greatest ? table.high[column] : table.low[column]);
                }
            }
            return sum;
        }

        /** The rest of the bounds that reach() comes from. */
        int reachRest(int row, int without, boolean greatest) {
            int rest = 0;
            for (int column = 0; column < table.columns; column++) {
                long a = table.a[row][column];
                if (a != 0 && column != without) {
                    rest |= (a > 0) == greatest ? highRest[column] : lowRest[column];
                }
            }
            return rest;
        }

        /** A bound is narrowed to dividend / divisor, a high DOWN, a low UP; false when that is impossible. */
        boolean narrow(int row, int column, boolean high, long dividend, long divisor, int rest) {
            if (divisor == 0) {
                return true;
            }
            long bound = high ? Math.floorDiv(dividend, divisor) : -Math.floorDiv(-dividend, divisor);
            if (high ? bound >= table.high[column] : bound <= table.low[column]) {
                return true;
            }
            if (bound < table.low[column] || bound > table.high[column]) {
                return endAll(rest | (high ? lowRest[column] : highRest[column]));
            }
            if (high) {
                table.high[column] = bound;
                highRest[column] = rest;
            } else {
                table.low[column] = bound;
                lowRest[column] = rest;
            }
            acts.note(rule, row, column, high ? ACT_HIGH : ACT_LOW, bound);
            return true;
        }

        /** The last one put in comes first: it stands on columns that were there longer than it was. */
        void turnBack(long[] put, long[] point) {
            for (int column = 0; column < table.columns; column++) {
                point[column] = table.isThere(column) ? put[column] : table.low[column];
            }
            for (int i = putIns - 1; i >= 0; i--) {
                long number = putInShift[i];
                for (int column = 0; column < table.columns; column++) {
                    number += putInFactors[i][column] * point[column];
                }
                point[putInColumn[i]] = number;
            }
        }
    }

    /** A round: each rule that is asked for, for all rows or columns. Each rule answers false when all ends at once. */
    private static final class Rounds {
        final Small small;
        final Table table;
        final RowRules rowRules;
        final ColumnRules columnRules;

        Rounds(Small small) {
            this.small = small;
            table = small.table;
            rowRules = new RowRules(small);
            columnRules = new ColumnRules(small);
        }

        boolean doRound(int rules) {
            for (int rule = 1; rule <= RULES; rule++) {
                if (((rules >> (rule - 1)) & 1) != 0) {
                    small.rule = rule;
                    int count = isByColumns(rule) ? table.columns : table.rows;
                    for (int i = 0; i < count; i++) {
                        if (!doRule(rule, i)) {
                            return false;
                        }
                    }
                }
            }
            return true;
        }

        private static boolean isByColumns(int rule) {
            return rule == 6 || rule == 8 || rule == 11;
        }

        /** The rule for row i or column i, if it is still there when it is come to. */
        private boolean doRule(int rule, int i) {
            if (isByColumns(rule) ? !table.isThere(i) : table.isGone(i)) {
                return true;
            }
            switch (rule) {
                case 1:
                    return rowRules.leaveEmpty(i);
                case 2:
                    return rowRules.divideShared(i);
                case 3:
                    return rowRules.leaveSingle(i);
                case 4:
                    return rowRules.lookAtSpan(i);
                case 5:
                    return rowRules.tighten(i);
                case 6:
                    return columnRules.fix(i);
                case 7:
                    return rowRules.leaveTwins(i);
                case 8:
                    return columnRules.moveToSide(i);
                case 9:
                    return columnRules.putIn(i);
                case 10:
                    return rowRules.makeLess(i);
                default:
                    return columnRules.putInFree(i);
            }
        }
    }

    /** The rules that look at rows and at the bounds of their terms. */
    private static final class RowRules {
        final Small small;
        final Table table;

        RowRules(Small small) {
            this.small = small;
            table = small.table;
        }

        boolean leaveEmpty(int row) {
            if (table.nextTerm(row, 0) != NONE) {
                return true;
            }
            if (!table.isHolding(row, 0)) {
                return small.endAll(small.rowRest[row]);
            }
            small.leaveOut(row);
            return true;
        }

        boolean divideShared(int row) {
            int first = table.nextTerm(row, 0);
            if (first == NONE) {
                return true;
            }
            long divisor = sharedDivisor(row);
            boolean equal = table.kind[row] == EQUAL;
            if (equal && divisor != 0 && table.right[row] % divisor != 0) {
                return small.endAll(small.rowRest[row]);
            }
            boolean turns = equal && table.a[row][first] < 0;
            if (divisor > 1) {
                divide(row, divisor);
            }
            if (turns) {
                turnSigns(row);
            }
            if (divisor > 1 || turns) {
                small.noteAnew(row);
            }
            return true;
        }

        private long sharedDivisor(int row) {
            long divisor = 0;
            for (int column = 0; column < table.columns; column++) {
                divisor = greatestDivisor(divisor, Math.abs(table.a[row][column]));
            }
            return divisor;
        }

        private static long greatestDivisor(long one, long other) {
            long a = one;
            long b = other;
            for (int i = 0; i < EUCLID_STEPS && b != 0; i++) {
                long left = a % b;
                a = b;
                b = left;
            }
            return a;
        }

        private void divide(int row, long divisor) {
            if (divisor == 0) {
                return;
            }
            for (int column = 0; column < table.columns; column++) {
                table.a[row][column] /= divisor;
            }
            table.right[row] = Math.floorDiv(table.right[row], divisor);
        }

        private void turnSigns(int row) {
            for (int column = 0; column < table.columns; column++) {
                table.a[row][column] = -table.a[row][column];
            }
            table.right[row] = -table.right[row];
        }

        boolean leaveSingle(int row) {
            if (table.countTerms(row) != 1) {
                return true;
            }
            int column = table.nextTerm(row, 0);
            if (column == NONE) {
                return true;
            }
            long a = table.a[row][column];
            long right = table.right[row];
            int rest = small.rowRest[row];
            boolean equal = table.kind[row] == EQUAL;
            if (equal && a != 0 && right % a != 0) {
                return small.endAll(rest);
            }
            if ((equal || a < 0) && !small.narrow(row, column, false, right, a, rest)) {
                return false;
            }
            if ((equal || a > 0) && !small.narrow(row, column, true, right, a, rest)) {
                return false;
            }
            small.leaveOut(row);
            return true;
        }

        boolean lookAtSpan(int row) {
            long right = table.right[row];
            boolean equal = table.kind[row] == EQUAL;
            long least = small.reach(row, NONE, false);
            long greatest = small.reach(row, NONE, true);
            if (least > right) {
                return small.endAll(small.rowRest[row] | small.reachRest(row, NONE, false));
            }
            if (equal && greatest < right) {
                return small.endAll(small.rowRest[row] | small.reachRest(row, NONE, true));
            }
            if (!equal && greatest <= right) {
                small.leaveOut(row);
                return true;
            }
            if (least == right) {
                return holdAtEnd(row, false);
            }
            if (equal && greatest == right) {
                return holdAtEnd(row, true);
            }
            return true;
        }

        /** All terms of the row can only be where its least (or greatest) sum comes from. */
        private boolean holdAtEnd(int row, boolean greatest) {
            int rest = small.rowRest[row] | small.reachRest(row, NONE, greatest);
            for (int column = 0; column < table.columns; column++) {
                long a = table.a[row][column];
                if (a != 0) {
                    boolean atHigh = (a > 0) == greatest;
                    long bound = atHigh ? table.high[column] : table.low[column];
                    if (!small.narrow(row, column, !atHigh, bound, 1, rest)) {
                        return false;
                    }
                }
            }
            small.leaveOut(row);
            return true;
        }

        boolean tighten(int row) {
            boolean equal = table.kind[row] == EQUAL;
            for (int column = 0; column < table.columns; column++) {
                if (table.a[row][column] != 0) {
                    if (!tightenTerm(row, column, false) || (equal && !tightenTerm(row, column, true))) {
                        return false;
                    }
                }
            }
            return true;
        }

        /** By the least of the other terms, or by their greatest. */
        private boolean tightenTerm(int row, int column, boolean greatest) {
            long a = table.a[row][column];
            long left = table.right[row] - small.reach(row, column, greatest);
            int rest = small.rowRest[row] | small.reachRest(row, column, greatest);
            return small.narrow(row, column, (a > 0) != greatest, left, a, rest);
        }

        boolean leaveTwins(int row) {
            if (table.nextTerm(row, 0) == NONE) {
                return true;
            }
            for (int other = row + 1; other < table.rows && !table.isGone(row); other++) {
                if (!table.isGone(other) && !comparePair(row, other)) {
                    return false;
                }
            }
            return true;
        }

        private boolean comparePair(int row, int other) {
            if (areTimes(row, other, 1)) {
                return leaveAlike(row, other);
            }
            if (table.kind[row] == AT_MOST && table.kind[other] == AT_MOST && areTimes(row, other, -1)) {
                return joinTurned(row, other);
            }
            return true;
        }

        private boolean areTimes(int row, int other, int sign) {
            for (int column = 0; column < table.columns; column++) {
                if (table.a[row][column] != sign * table.a[other][column]) {
                    return false;
                }
            }
            return true;
        }

        private boolean leaveAlike(int row, int other) {
            long right = table.right[row];
            long otherRight = table.right[other];
            if (table.kind[row] == AT_MOST && table.kind[other] == AT_MOST) {
                small.leaveOut(right > otherRight ? row : other);
                return true;
            }
            boolean agree;
            if (table.kind[row] == AT_MOST) {
                agree = right >= otherRight;
            } else if (table.kind[other] == AT_MOST) {
                agree = otherRight >= right;
            } else {
                agree = right == otherRight;
            }
            if (!agree) {
                return small.endAll(small.rowRest[row] | small.rowRest[other]);
            }
            small.leaveOut(table.kind[row] == AT_MOST ? row : other);
            return true;
        }

        private boolean joinTurned(int row, int other) {
            long gap = table.right[row] + table.right[other];
            if (gap < 0) {
                return small.endAll(small.rowRest[row] | small.rowRest[other]);
            }
            if (gap == 0) {
                table.kind[row] = EQUAL;
                small.rowRest[row] |= small.rowRest[other];
                small.noteAnew(row);
                small.leaveOut(other);
            }
            return true;
        }

        boolean makeLess(int row) {
            if (table.kind[row] != AT_MOST) {
                return true;
            }
            for (int column = 0; column < table.columns; column++) {
                if (table.a[row][column] != 0 && table.isBinary(column)) {
                    makeTermLess(row, column);
                }
            }
            return true;
        }

        private void makeTermLess(int row, int column) {
            long a = table.a[row][column];
            long right = table.right[row];
            long greatest = small.reach(row, column, true);
            if (a > 0 && greatest < right && greatest + a > right) {
                table.a[row][column] = a - (right - greatest);
                table.right[row] = greatest;
            } else if (a < 0 && greatest + a < right && greatest > right) {
                table.a[row][column] = right - greatest;
            } else {
                return;
            }
            small.rowRest[row] |=
                    small.reachRest(row, column, true) | small.lowRest[column] | small.highRest[column];
            small.noteAnew(row);
        }
    }

    /** The rules by which columns are fixed, moved to a side, or put in for others. */
    private static final class ColumnRules {
        final Small small;
        final Table table;

        ColumnRules(Small small) {
            this.small = small;
            table = small.table;
        }

        boolean fix(int column) {
            long number = table.low[column];
            if (number != table.high[column]) {
                return true;
            }
            int rest = small.lowRest[column] | small.highRest[column];
            for (int row = 0; row < table.rows; row++) {
                if (!table.isGone(row) && table.a[row][column] != 0) {
                    table.right[row] -= table.a[row][column] * number;
                    table.a[row][column] = 0;
                    small.rowRest[row] |= rest;
                }
            }
            small.offset += number * table.cost[column];
            table.state[column] = FIXED;
            small.acts.note(small.rule, NONE, column, ACT_FIXED, number);
            return true;
        }

        boolean moveToSide(int column) {
            long low = table.low[column];
            long high = table.high[column];
            if (low == high) {
                return true;
            }
            if (table.cost[column] >= 0 && hasOnlyTerms(column, 1)) {
                return small.narrow(NONE, column, true, low, 1, table.allRows());
            }
            if (table.cost[column] <= 0 && hasOnlyTerms(column, -1)) {
                return small.narrow(NONE, column, false, high, 1, table.allRows());
            }
            return true;
        }

        /** Whether all terms of the column are of this sign and in rows of kind 0. */
        private boolean hasOnlyTerms(int column, int sign) {
            for (int row = 0; row < table.rows; row++) {
                long a = table.a[row][column];
                if (!table.isGone(row) && a != 0 && (a * sign < 0 || table.kind[row] != AT_MOST)) {
                    return false;
                }
            }
            return true;
        }

        boolean putIn(int row) {
            int first = table.nextTerm(row, 0);
            if (first == NONE || table.kind[row] != EQUAL) {
                return true;
            }
            int second = table.nextTerm(row, first + 1);
            if (second == NONE || table.nextTerm(row, second + 1) != NONE) {
                return true;
            }
            int x = table.isUnit(row, second) ? second : first;
            int y = x == second ? first : second;
            if (!table.isUnit(row, x) || !staysWithin(row, x)) {
                return true;
            }
            long shift = table.a[row][x] * table.right[row];
            long factor = factorOf(row, x, y);
            int rest = small.rowRest[row];
            if (!small.narrow(row, y, factor < 0, table.low[x] - shift, factor, rest | small.lowRest[x])
                    || !small.narrow(row, y, factor > 0, table.high[x] - shift, factor, rest | small.highRest[x])) {
                return false;
            }
            putInFor(row, x);
            return true;
        }

        boolean putInFree(int x) {
            int row = onlyRow(x);
            if (row == NONE || table.kind[row] != EQUAL || !table.isUnit(row, x) || table.countTerms(row) < 2) {
                return true;
            }
            long right = table.right[row];
            long least = small.reach(row, x, false);
            long greatest = small.reach(row, x, true);
            boolean plus = table.a[row][x] > 0;
            long lowest = plus ? right - greatest : least - right;
            long highest = plus ? right - least : greatest - right;
            if (lowest >= table.low[x] && highest <= table.high[x] && staysWithin(row, x)) {
                putInFor(row, x);
            }
            return true;
        }

        /** The one row with a term of the column; NONE if there is none, or more than one. */
        private int onlyRow(int column) {
            int found = NONE;
            for (int row = 0; row < table.rows; row++) {
                if (!table.isGone(row) && table.a[row][column] != 0) {
                    if (found != NONE) {
                        return NONE;
                    }
                    found = row;
                }
            }
            return found;
        }

        /** By an equal row x is a shift and the sum of the row's other columns y, each times such a factor. */
        private long factorOf(int row, int x, int y) {
            return y == x ? 0 : -table.a[row][x] * table.a[row][y];
        }

        /** Whether all numbers stay within their limits when x is put in by the row. */
        private boolean staysWithin(int row, int x) {
            long shift = table.a[row][x] * table.right[row];
            if (beyond(shift * table.cost[x], SMALL_SHIFT)) {
                return false;
            }
            for (int y = 0; y < table.columns; y++) {
                if (beyond(table.cost[y] + factorOf(row, x, y) * table.cost[x], SMALL_COEFFICIENT)) {
                    return false;
                }
            }
            for (int other = 0; other < table.rows; other++) {
                if (other != row && !table.isGone(other) && !rowStaysWithin(row, x, other)) {
                    return false;
                }
            }
            return true;
        }

        private boolean rowStaysWithin(int row, int x, int other) {
            long a = table.a[other][x];
            if (a == 0) {
                return true;
            }
            long shift = table.a[row][x] * table.right[row];
            if (beyond(table.right[other] - a * shift, SMALL_RIGHT)) {
                return false;
            }
            for (int y = 0; y < table.columns; y++) {
                if (y != x && beyond(table.a[other][y] + a * factorOf(row, x, y), SMALL_COEFFICIENT)) {
                    return false;
                }
            }
            return true;
        }

        private void putInFor(int row, int x) {
            long shift = table.a[row][x] * table.right[row];
            recordPutIn(row, x, shift);
            for (int y = 0; y < table.columns; y++) {
                table.cost[y] += factorOf(row, x, y) * table.cost[x];
            }
            small.offset += shift * table.cost[x];
            for (int other = 0; other < table.rows; other++) {
                if (other != row && !table.isGone(other) && table.a[other][x] != 0) {
                    putInRow(row, x, other);
                }
            }
            table.state[x] = PUT_IN;
            table.kind[row] = NONE;
            small.acts.note(small.rule, row, x, ACT_PUT_IN, shift);
        }

        private void recordPutIn(int row, int x, long shift) {
            int i = small.putIns;
            if (i >= MOST) {
                return;
            }
            small.putInColumn[i] = x;
            small.putInShift[i] = shift;
            for (int y = 0; y < table.columns; y++) {
                small.putInFactors[i][y] = factorOf(row, x, y);
            }
            small.putIns = i + 1;
        }

        private void putInRow(int row, int x, int other) {
            long a = table.a[other][x];
            for (int y = 0; y < table.columns; y++) {
                table.a[other][y] += a * factorOf(row, x, y);
            }
            table.a[other][x] = 0;
            table.right[other] -= a * table.a[row][x] * table.right[row];
            small.rowRest[other] |= small.rowRest[row];
        }
    }

    /** What is told of the small beside its numbers. */
    private static final class Looks {
        final Small small;
        final Table table;
        final int[] order = new int[MOST];

        Looks(Small small) {
            this.small = small;
            table = small.table;
        }

        int countParts() {
            int seen = 0;
            int parts = 0;
            for (int column = 0; column < table.columns; column++) {
                if (table.isThere(column) && ((seen >> column) & 1) == 0) {
                    seen |= partOf(column);
                    parts++;
                }
            }
            return parts;
        }

        /** As many passes as rows are enough: each that still adds a column has come to another row. */
        private int partOf(int column) {
            int part = 1 << column;
            for (int pass = 0; pass < table.rows; pass++) {
                for (int row = 0; row < table.rows; row++) {
                    int terms = table.isGone(row) ? 0 : termSet(row);
                    if ((terms & part) != 0) {
                        part |= terms;
                    }
                }
            }
            return part;
        }

        private int termSet(int row) {
            int terms = 0;
            for (int column = 0; column < table.columns; column++) {
                if (table.a[row][column] != 0) {
                    terms |= 1 << column;
                }
            }
            return terms;
        }

        /** How many terms the clique of the row has; their columns then stand in order. */
        int findClique(int row) {
            if (table.isGone(row)) {
                return 0;
            }
            int terms = sortBinaryTerms(row);
            long room = table.right[row] - small.reach(row, NONE, false);
            int size = 0;
            for (int i = 1; i < terms; i++) {
                if (amount(row, order[i - 1]) + amount(row, order[i]) > room) {
                    size = i + 1;
                }
            }
            return size;
        }

        private int sortBinaryTerms(int row) {
            int terms = 0;
            for (int column = 0; column < table.columns; column++) {
                if (table.a[row][column] != 0 && table.isBinary(column)) {
                    int place = terms;
                    while (place > 0 && amount(row, order[place - 1]) < amount(row, column)) {
                        order[place] = order[place - 1];
                        place--;
                    }
                    order[place] = column;
                    terms++;
                }
            }
            return terms;
        }

        private long amount(int row, int column) {
            return Math.abs(table.a[row][column]);
        }

        boolean areSame(int column, int other) {
            if (!table.isThere(column) || !table.isThere(other)) {
                return false;
            }
            if (table.low[column] != table.low[other] || table.high[column] != table.high[other]
                    || table.cost[column] != table.cost[other]) {
                return false;
            }
            for (int row = 0; row < table.rows; row++) {
                if (!table.isGone(row) && table.a[row][column] != table.a[row][other]) {
                    return false;
                }
            }
            return true;
        }
    }
}
