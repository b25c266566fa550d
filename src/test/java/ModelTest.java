import java.lang.reflect.InvocationTargetException;
import java.lang.reflect.Method;
import java.util.ArrayList;
import java.util.Arrays;
import java.util.List;
import java.util.Random;

/**
 * Runs of calls with the answers of the Model, which is the document written down a second time. The seed is fixed;
 * another one, and how many runs, may be told as arguments.
 */
public final class ModelTest {
    private static final int CALLS = 512;
    private static final int[] ODD = {-1, 0, 1, 2, 3, 4, 11, 12, 13, 50, 51, 399, 400, 1000, 1001, -1000, -1001, 2047,
        2048, 10000, 10001, -10000, -10001, 1000000, 1000001, -1000000, -1000001, Integer.MIN_VALUE, Integer.MAX_VALUE};

    private final Random random;
    private final RowPresolve real = new RowPresolve();
    private final Model model = new Model();
    private final List<String> run = new ArrayList<>();
    private boolean asDue = true;
    private int columns = 0;
    private int rows = 0;
    private final int[] point = new int[12];

    private ModelTest(long seed) {
        random = new Random(seed);
    }

    public static void main(String[] args) {
        long seed = args.length > 0 ? Long.parseLong(args[0]) : 20261116;
        int runs = args.length > 1 ? Integer.parseInt(args[1]) : 1500;
        for (int i = 0; i < runs; i++) {
            new ModelTest(seed * 1000003 + i).goThrough(i);
        }
        Check.end();
    }

    private void goThrough(int number) {
        while (asDue && run.size() < CALLS) {
            oneStretch();
        }
        Check.is("run " + number, "as the model", asDue ? "as the model" : String.join("; ", run));
    }

    /** A whole that is told, its small, and calls of all kinds; then another one, or changes of it. */
    private void oneStretch() {
        if (random.nextInt(3) != 0) {
            call("clear");
        }
        tellWhole();
        look();
        for (int i = random.nextInt(3); i >= 0; i--) {
            call("shrink", rules(), random.nextInt(3) == 0 ? 1 + random.nextInt(4) : 50);
            for (int k = random.nextInt(60); k > 0; k--) {
                look();
            }
            putAll();
            if (random.nextInt(4) == 0) {
                changeWhole();
                look();
            }
        }
    }

    private int rules() {
        switch (random.nextInt(5)) {
            case 0:
                return 1 << random.nextInt(11);
            case 1:
                return (1 << random.nextInt(11)) | (1 << random.nextInt(11)) | (1 << 5);
            case 2:
                return random.nextInt(2048);
            default:
                return 2047;
        }
    }

    private void tellWhole() {
        if (random.nextInt(6) == 0) {
            tellChain();
            return;
        }
        int width = oneOf(1, 1, 2, 4, 9, 200, 10000);
        int most = oneOf(1, 1, 2, 4, 12, 1000);
        int count = random.nextInt(4) == 0 ? 12 : 5;
        for (int i = random.nextInt(count + 1); i > 0; i--) {
            tellColumn(width);
        }
        int dense = 1 + random.nextInt(4);
        for (int i = random.nextInt(count + 1); i > 0; i--) {
            tellRow(most, dense);
        }
    }

    /** Columns that are put in for one another, so that coefficients and costs come to their limits. */
    private void tellChain() {
        int links = 2 + random.nextInt(4);
        for (int i = 0; i <= links; i++) {
            call("column", -10000, 10000, oneOf(0, 1, any(1000), 1000));
        }
        for (int i = 0; i < links; i++) {
            int row = rows;
            call("row", 1, oneOf(0, 0, any(10), any(1000000)));
            call("term", row, i, oneOf(1, -1));
            call("term", row, oneOf(i + 1, i + 1, random.nextInt(12)), oneOf(1, 10, -10, any(1000), 1000, -1000));
        }
        for (int i = random.nextInt(3); i > 0; i--) {
            int row = rows;
            call("row", random.nextInt(2), any(1000000));
            for (int k = 0; k < 3; k++) {
                call("term", row, random.nextInt(links), oneOf(1, any(1000), 1000, -1000));
            }
        }
    }

    private void tellColumn(int width) {
        int low = oneOf(0, 0, random.nextInt(2 * width + 1) - width, -width);
        int further = low + 1 + random.nextInt(width);
        int high = Math.min(10000, oneOf(low, further, further, low + 2 * width));
        if (columns < 12) {
            point[columns] = low + random.nextInt(high - low + 1);
        }
        call("column", low, high, oneOf(0, 0, any(3), any(3), any(1000)));
    }

    /** Mostly such a row that the point holds it; some have two terms at most, some are twins of the row before. */
    private void tellRow(int most, int dense) {
        int[] a = new int[12];
        int form = random.nextInt(10);
        int first = random.nextInt(12);
        int second = random.nextInt(12);
        for (int column = 0; column < columns; column++) {
            boolean has = form < 2 ? column == first || column == second : random.nextInt(4) < dense;
            a[column] = has ? oneOf(random.nextBoolean() ? 1 : -1, any(most), any(most)) : 0;
        }
        if (form > 7) {
            takeTwin(a);
        }
        long sum = 0;
        for (int column = 0; column < columns; column++) {
            sum += (long) a[column] * point[column];
        }
        int kind = random.nextInt(2);
        long right = sum + (kind == 0 ? random.nextInt(2 * most + 1) : 0) + (random.nextInt(15) == 0 ? any(most) : 0);
        int row = rows;
        call("row", kind, (int) Math.max(-1000000, Math.min(1000000, right)));
        for (int column = 0; column < columns && row < 12; column++) {
            if (a[column] != 0) {
                call("term", row, column, a[column]);
            }
        }
    }

    /** The small by no rules tells the row before as it was told. */
    private void takeTwin(int[] a) {
        call("shrink", 0, 1);
        int sign = oneOf(1, -1, -1);
        for (int column = 0; column < columns && rows > 0 && hasSmall(); column++) {
            a[column] = sign * model.coefficient(rows - 1, column);
        }
    }

    private void changeWhole() {
        switch (random.nextInt(5)) {
            case 0:
                tellColumn(3);
                break;
            case 1:
                tellRow(3, 2);
                break;
            case 2:
                call("term", odd(), odd(), odd());
                break;
            case 3:
                call("column", odd(), odd(), odd());
                call("row", odd(), odd());
                break;
            default:
                call("term", random.nextInt(12), random.nextInt(12), any(4));
        }
    }

    private void putAll() {
        call("best", true);
        for (int column = 0; column < columns && hasSmall(); column++) {
            int low = model.bound(column, false);
            int high = model.bound(column, true);
            int number = random.nextInt(30) == 0 ? high + 1 : low + random.nextInt(high - low + 1);
            if (random.nextInt(40) != 0) {
                call("put", column, random.nextInt(3) == 0 && hasBest() ? model.bestAt(column) : number);
            }
        }
        call("back");
        call("value");
        for (int column = 0; column <= columns; column++) {
            call("at", column);
        }
    }

    private void look() {
        switch (random.nextInt(14)) {
            case 0:
                call(oneName("offset", "certificate", "certified", "acts", "parts", "back", "value", "bestValue"));
                break;
            case 1:
                call(oneName("state", "cost", "at", "bestAt"), column());
                break;
            case 2:
                call(oneName("kind", "right", "clique"), row());
                break;
            case 3:
                call("bound", column(), random.nextBoolean());
                break;
            case 4, 5:
                call("coefficient", row(), column());
                break;
            case 6, 7:
                int which = random.nextInt(30) == 0 ? odd() : random.nextInt(3);
                call("rest", which, which == 0 ? row() : column());
                break;
            case 8, 9, 10:
                call("act", hasSmall() ? random.nextInt(model.acts() + 1) : odd(), random.nextInt(6));
                break;
            case 11:
                call("cliqueAt", row(), random.nextInt(4));
                break;
            case 12:
                call("same", column(), column());
                break;
            default:
                call("best", random.nextBoolean());
        }
        if (random.nextInt(30) == 0) {
            call(oneName("shrink", "put", "cliqueAt", "act", "same", "coefficient", "rest"), odd(), odd());
        }
    }

    private boolean hasSmall() {
        return Check.raised(model::acts).equals("nothing");
    }

    private boolean hasBest() {
        return Check.raised(model::bestValue).equals("nothing");
    }

    private int any(int most) {
        return random.nextInt(2 * most + 1) - most;
    }

    private int oneOf(int... numbers) {
        return numbers[random.nextInt(numbers.length)];
    }

    private String oneName(String... names) {
        return names[random.nextInt(names.length)];
    }

    private int odd() {
        return oneOf(ODD);
    }

    private int column() {
        return random.nextInt(30) == 0 || columns == 0 ? odd() : random.nextInt(columns);
    }

    private int row() {
        return random.nextInt(30) == 0 || rows == 0 ? odd() : random.nextInt(rows);
    }

    /** The call is made of both. Behind the last call of a run, or an answer that is not the same, nothing is done. */
    private void call(String name, Object... with) {
        if (!asDue || run.size() >= CALLS) {
            return;
        }
        String due = answer(model, name, with);
        String got = answer(real, name, with);
        run.add(name + Arrays.toString(with) + " " + got);
        asDue = due.equals(got);
        if (!asDue) {
            run.add("due is " + due);
        }
        boolean made = !due.endsWith("Exception");
        columns = name.equals("clear") ? 0 : columns + (name.equals("column") && made ? 1 : 0);
        rows = name.equals("clear") ? 0 : rows + (name.equals("row") && made ? 1 : 0);
    }

    private static String answer(Object of, String name, Object... with) {
        try {
            for (Method method : of.getClass().getDeclaredMethods()) {
                boolean asked = method.getName().equals(name) && (method.getModifiers() & 1) != 0;
                if (asked && method.getParameterCount() == with.length) {
                    return String.valueOf(method.invoke(of, with));
                }
            }
            return "there is no such method";
        } catch (InvocationTargetException e) {
            return e.getCause().getClass().getSimpleName();
        } catch (IllegalAccessException e) {
            return "not to be called";
        }
    }
}
