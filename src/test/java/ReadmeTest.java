import java.io.IOException;
import java.lang.reflect.InvocationTargetException;
import java.lang.reflect.Method;
import java.nio.file.Files;
import java.nio.file.Path;
import java.util.HashSet;
import java.util.Set;
import java.util.regex.Matcher;
import java.util.regex.Pattern;

/** README.md: each call that it shows is made, in its order, and must answer what it says there. */
public final class ReadmeTest {
    private static final Path PAGE = Path.of("README.md");
    private static final Pattern CALL = Pattern.compile("hall\\.(\\w+)\\(([^)]*)\\); +// (throws )?([^ :;,]+).*");
    private static final Set<String> shown = new HashSet<>();
    private static Beaverhall hall;

    public static void main(String[] args) throws IOException, IllegalAccessException {
        boolean isCode = false;
        for (String line : Files.readAllLines(PAGE)) {
            if (line.startsWith("```")) {
                isCode = line.equals("```java");
            } else if (isCode) {
                look(line);
            }
        }
        Due.is("the page shows many methods", shown.size() >= 25, true);
        Due.end();
    }

    private static void look(String line) throws IllegalAccessException {
        if (line.equals("Beaverhall hall = new Beaverhall();")) {
            hall = new Beaverhall();
            return;
        }
        Matcher call = CALL.matcher(line);
        Due.is("the page shows a call and its answer: " + line, hall != null && call.matches(), true);
        if (hall != null && call.matches()) {
            String[] given = call.group(2).isEmpty() ? new String[0] : call.group(2).split(", ");
            String got = answer(named(call.group(1), given.length), given);
            Due.is("the page's line: " + line + " answered " + got + ", so that the page", got.equals(call.group(4)), true);
        }
    }

    private static Method named(String name, int count) {
        for (Method each : Beaverhall.class.getMethods()) {
            if (each.getName().equals(name) && each.getParameterCount() == count) {
                shown.add(name);
                return each;
            }
        }
        throw new IllegalStateException("no method " + name);
    }

    private static String answer(Method method, String[] given) throws IllegalAccessException {
        Object[] values = new Object[given.length];
        for (int i = 0; i < given.length; i++) {
            values[i] = value(method.getParameterTypes()[i], given[i]);
        }
        try {
            return String.valueOf(method.invoke(hall, values));
        } catch (InvocationTargetException e) {
            return e.getCause().getClass().getSimpleName();
        }
    }

    private static Object value(Class<?> type, String text) {
        if (type == char.class) {
            return text.charAt(1);
        }
        if (type == long.class) {
            return Long.parseLong(text);
        }
        return Integer.parseInt(text);
    }
}
