import java.util.Set;
import java.util.TreeSet;

/** Tests of single sentences of the document, and the objects at which refused calls are tried. */
final class Edges {
    interface Make {
        RowPresolve make();
    }

    interface Use {
        void on(RowPresolve x);
    }

    private static final int LOOKS = 4;
    private static final Set<String> NAMED = new TreeSet<>();

    private Edges() {
    }

    /** One sentence: its place in the document, its words there, and its test. */
    static void says(String place, String words, Check.Call test) {
        NAMED.add(place);
        Check.yes(place + " of the document says: " + words, Doc.says(place, words));
        Check.within(place + ", \"" + words + "\"", test);
    }

    static void allPlacesAreNamed() {
        for (String place : Doc.places()) {
            Check.yes(place + " has a test of its own", NAMED.contains(place));
        }
    }

    /** The call throws just this, and an object on which it was tried answers as one on which it was not. */
    static void refused(String what, Class<?> due, Make make, Use call) {
        for (int look = 0; look < LOOKS; look++) {
            RowPresolve tried = make.make();
            Check.raises(what, due, () -> call.on(tried));
            Check.is("what is told behind " + what, look(make.make(), look), look(tried, look));
        }
    }

    /** Several ways to look at an object, as no object may be used for more than 512 calls. */
    private static String look(RowPresolve x, int which) {
        switch (which) {
            case 0:
                return Check.everything(x);
            case 1:
                return answers(x::back, x::value, () -> x.at(0), () -> x.at(1), () -> x.best(true), x::bestValue);
            case 2:
                return answers(() -> x.shrink(2047, 50)) + Check.everything(x);
            default:
                return answers(() -> x.best(false), x::bestValue, () -> x.column(0, 0, 0), () -> x.row(0, 0), x::clear);
        }
    }

    private static String answers(Check.Answer... all) {
        StringBuilder text = new StringBuilder();
        for (Check.Answer answer : all) {
            Check.add(text, answer);
        }
        return text.toString();
    }

    /** Four columns and three rows, no small. */
    static RowPresolve told() {
        RowPresolve x = Told.columns(0, 1, 2, 0, 5, -1, 4, 4, 3, -9, 9, 1);
        Told.atMost(x, 4, 1, 1);
        Told.atMost(x, 8, 2, 1, 1);
        Told.equal(x, 0, 0, 1, 0, -1);
        return x;
    }

    /** Column 2 is FIXED, column 3 is PUT IN, row 2 is GONE. */
    static RowPresolve small() {
        RowPresolve x = told();
        x.shrink(Told.rules(6, 9), 50);
        return x;
    }

    /** As small(), with a point turned back, another one put since, and the best found. */
    static RowPresolve found() {
        RowPresolve x = small();
        x.put(0, 1);
        x.put(1, 3);
        x.back();
        x.best(true);
        x.put(1, 2);
        return x;
    }

    /** Of the three rows of told() and of another one, which can't hold. */
    static RowPresolve impossible() {
        RowPresolve x = told();
        x.row(1, 1);
        x.shrink(Told.rules(1, 6), 50);
        return x;
    }

    /** As many columns and rows as there may be, with a small. */
    static RowPresolve full() {
        RowPresolve x = Told.alike(12, 0, 1);
        for (int i = 0; i < 12; i++) {
            x.row(0, i);
            x.term(i, i, i + 1);
            x.term(i, (i + 1) % 12, 2);
        }
        x.shrink(Told.rules(4), 1);
        return x;
    }
}
