import java.lang.reflect.Constructor;
import java.lang.reflect.Field;
import java.lang.reflect.Method;
import java.lang.reflect.Modifier;
import java.util.Set;
import java.util.TreeSet;

/** The public face is the document's, with nothing more. */
public final class FaceTest {
    // With the exceptions that each may throw, in their order, the first words of their names only.
    private static final String[] METHODS = {
        "int column(int,int,int) State Argument", "int row(int,int) State Argument",
        "void term(int,int,int) Index Argument", "int clear()", "int shrink(int,int) Argument",
        "int state(int) State Index", "int bound(int,boolean) State Index", "int cost(int) State Index",
        "int kind(int) State Index", "long right(int) State Index", "int coefficient(int,int) State Index",
        "long offset() State", "int rest(int,int) State Argument Index", "int certificate() State",
        "int certified() State", "int acts() State", "long act(int,int) State Index Argument", "int parts() State",
        "int clique(int) State Index", "int cliqueAt(int,int) State Index", "boolean same(int,int) State Index",
        "void put(int,int) State Index Argument", "int back() State", "int at(int) State Index", "long value() State",
        "int best(boolean) State", "long bestValue() State", "int bestAt(int) State Index",
    };

    public static void main(String[] args) {
        Check.is("NONE", -1, RowPresolve.NONE);
        Check.is("modifiers", Modifier.PUBLIC | Modifier.FINAL, RowPresolve.class.getModifiers());
        methods();
        fieldsAndConstructors();
        Check.end();
    }

    private static void methods() {
        Set<String> due = new TreeSet<>(Set.of(METHODS));
        Set<String> seen = new TreeSet<>();
        Set<String> publicNames = new TreeSet<>();
        for (Method method : RowPresolve.class.getDeclaredMethods()) {
            if (!Modifier.isPrivate(method.getModifiers())) {
                seen.add(signature(method));
                publicNames.add(method.getName());
            }
        }
        Check.is("the face", due.toString(), seen.toString());
        for (Method method : RowPresolve.class.getDeclaredMethods()) {
            if (Modifier.isPrivate(method.getModifiers())) {
                Check.no("private " + method.getName(), publicNames.contains(method.getName()));
            }
        }
    }

    private static String signature(Method method) {
        StringBuilder text = new StringBuilder(method.getReturnType().getName());
        text.append(' ').append(method.getName()).append('(');
        for (int i = 0; i < method.getParameterCount(); i++) {
            text.append(i == 0 ? "" : ",").append(method.getParameterTypes()[i].getName());
        }
        text.append(')');
        for (Class<?> raised : method.getExceptionTypes()) {
            text.append(' ').append(raised.getSimpleName().replaceAll("^Illegal|OutOfBoundsException$|Exception$", ""));
        }
        return text.toString();
    }

    private static void fieldsAndConstructors() {
        for (Field field : RowPresolve.class.getDeclaredFields()) {
            boolean isPrivate = Modifier.isPrivate(field.getModifiers());
            Check.yes("private " + field.getName(), isPrivate || field.getName().equals("NONE"));
        }
        Constructor<?>[] constructors = RowPresolve.class.getDeclaredConstructors();
        Check.is("constructors", 1, constructors.length);
        Check.is("constructor's parameters", 0, constructors[0].getParameterCount());
        Check.yes("public constructor", Modifier.isPublic(constructors[0].getModifiers()));
    }
}
