import java.io.IOException;
import java.lang.reflect.InvocationTargetException;
import java.lang.reflect.Method;
import java.nio.file.Files;
import java.nio.file.Path;
import java.util.Set;
import java.util.TreeSet;
import java.util.regex.Matcher;
import java.util.regex.Pattern;

/** The calls that README.md shows, one a line, answer what stands behind them there. */
public final class ReadmeTest {
    private static final Pattern CALL = Pattern.compile("x\\.(\\w+)\\((.*)\\);(?:\\s+// (-?\\w+)\\b.*)?");
    private static final String NEW = "RowPresolve x = new RowPresolve();";

    private static RowPresolve x = null;

    public static void main(String[] args) throws IOException {
        String text = Files.readString(Path.of("README.md"));
        boolean inside = false;
        for (String line : text.split("\n")) {
            if (line.startsWith("```")) {
                inside = line.equals("```java");
            } else if (inside) {
                tryLine(line);
            }
        }
        Check.yes("README.md has calls", x != null);
        allMethodsAreNamed(text);
        Check.end();
    }

    private static void tryLine(String line) {
        if (line.equals(NEW)) {
            x = new RowPresolve();
            return;
        }
        Matcher call = CALL.matcher(line);
        if (!call.matches()) {
            Check.is("README.md", "a call", line);
            return;
        }
        String due = call.group(3) == null ? "null" : call.group(3);
        Check.is("README.md: " + line, due, answer(call.group(1), call.group(2)));
    }

    private static String answer(String name, String given) {
        String[] texts = given.isEmpty() ? new String[0] : given.split(", ");
        Object[] with = new Object[texts.length];
        for (int i = 0; i < texts.length; i++) {
            with[i] = texts[i].matches("true|false") ? (Object) Boolean.valueOf(texts[i]) : Integer.valueOf(texts[i]);
        }
        try {
            for (Method method : RowPresolve.class.getMethods()) {
                if (method.getName().equals(name)) {
                    return String.valueOf(method.invoke(x, with));
                }
            }
            return "no such method";
        } catch (InvocationTargetException e) {
            return e.getCause().getClass().getSimpleName();
        } catch (IllegalAccessException e) {
            return "not to be called";
        }
    }

    /** Nobody should have to look for a method that README.md leaves out. */
    private static void allMethodsAreNamed(String text) {
        Set<String> left = new TreeSet<>();
        for (Method method : RowPresolve.class.getDeclaredMethods()) {
            boolean isPublic = (method.getModifiers() & 1) != 0;
            if (isPublic && !Pattern.compile("[.`]" + method.getName() + "[(`]").matcher(text).find()) {
                left.add(method.getName());
            }
        }
        Check.is("methods that README.md does not name", "[]", left.toString());
    }
}
