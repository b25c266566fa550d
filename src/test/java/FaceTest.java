import java.lang.reflect.Constructor;
import java.lang.reflect.Field;
import java.lang.reflect.Method;
import java.lang.reflect.Modifier;
import java.util.Set;
import java.util.TreeSet;

/** The public face is the document's, with nothing more. */
public final class FaceTest {
    private static final String[] METHODS = {
        "int column(int,int,int)", "int row(int,int)", "void term(int,int,int)", "int clear()", "int shrink(int,int)",
        "int state(int)", "int bound(int,boolean)", "int cost(int)", "int kind(int)", "long right(int)",
        "int coefficient(int,int)", "long offset()", "int rest(int,int)", "int certificate()", "int certified()",
        "int acts()", "long act(int,int)", "int parts()", "int clique(int)", "int cliqueAt(int,int)",
        "boolean same(int,int)", "void put(int,int)", "int back()", "int at(int)", "long value()",
        "int best(boolean)", "long bestValue()", "int bestAt(int)",
    };

    public static void main(String[] args) {
        Check.is("NONE", -1, RowPresolve.NONE);
        Check.is("modifiers", Modifier.PUBLIC | Modifier.FINAL, RowPresolve.class.getModifiers());
        methods();
        fieldsAndConstructors();
        Check.end();
    }

    private static void methods() {
        Set<String> due = new TreeSet<>(Set.of(METHODS));
        Set<String> seen = new TreeSet<>();
        Set<String> publicNames = new TreeSet<>();
        for (Method method : RowPresolve.class.getDeclaredMethods()) {
            if (!Modifier.isPrivate(method.getModifiers())) {
                seen.add(signature(method));
                publicNames.add(method.getName());
            }
        }
        Check.is("the face", due.toString(), seen.toString());
        for (Method method : RowPresolve.class.getDeclaredMethods()) {
            if (Modifier.isPrivate(method.getModifiers())) {
                Check.no("private " + method.getName(), publicNames.contains(method.getName()));
            }
        }
    }

    private static String signature(Method method) {
        StringBuilder text = new StringBuilder(method.getReturnType().getName());
        text.append(' ').append(method.getName()).append('(');
        for (int i = 0; i < method.getParameterCount(); i++) {
            text.append(i == 0 ? "" : ",").append(method.getParameterTypes()[i].getName());
        }
        return text.append(')').toString();
    }

    private static void fieldsAndConstructors() {
        for (Field field : RowPresolve.class.getDeclaredFields()) {
            boolean isPrivate = Modifier.isPrivate(field.getModifiers());
            Check.yes("private " + field.getName(), isPrivate || field.getName().equals("NONE"));
        }
        Constructor<?>[] constructors = RowPresolve.class.getDeclaredConstructors();
        Check.is("constructors", 1, constructors.length);
        Check.is("constructor's parameters", 0, constructors[0].getParameterCount());
        Check.yes("public constructor", Modifier.isPublic(constructors[0].getModifiers()));
    }
}
