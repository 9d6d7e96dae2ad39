import java.lang.reflect.Constructor;
import java.lang.reflect.Field;
import java.lang.reflect.Member;
import java.lang.reflect.Method;
import java.lang.reflect.Modifier;
import java.nio.file.Files;
import java.nio.file.Path;
import java.util.ArrayList;
import java.util.HashSet;
import java.util.List;
import java.util.Set;
import java.util.regex.Matcher;
import java.util.regex.Pattern;

/** The face: the class has what the document's java block shows, and nothing else that can be seen. */
public final class FaceTest {
    private static final Path DOCUMENT = Path.of("..", "shared", "DOC.md");

    public static void main(String[] args) throws Exception {
        String text = Files.readString(DOCUMENT);
        String block = text.substring(text.indexOf("```java"), text.indexOf("```", text.indexOf("```java") + 3));
        Set<String> due = new HashSet<>();
        Matcher lines = Pattern.compile("public (\\w+) (\\w+)\\(([^)]*)\\)( throws ([^;]*))?;").matcher(block);
        while (lines.find()) {
            due.add(lines.group(1) + " " + lines.group(2) + "(" + types(lines.group(3)) + ")"
                    + (lines.group(5) == null ? "" : " throws " + lines.group(5)));
        }
        Due.is("methods of the document", due.size() > 40, true);
        Set<String> got = new HashSet<>();
        for (Method each : Beaverhall.class.getDeclaredMethods()) {
            if (!isHidden(each)) {
                got.add(shown(each));
            }
        }
        for (String each : due) {
            Due.is("there is " + each, got.contains(each), true);
        }
        Due.is("no other methods", got.size(), due.size());
        constructors();
        fields();
        Due.end();
    }

    private static boolean isHidden(Member member) {
        return Modifier.isPrivate(member.getModifiers()) || member.isSynthetic();
    }

    private static String types(String arguments) {
        List<String> all = new ArrayList<>();
        for (String each : arguments.split(",")) {
            all.add(each.trim().split(" ")[0]);
        }
        return String.join(", ", all);
    }

    private static String shown(Method method) {
        List<String> all = new ArrayList<>();
        for (Class<?> each : method.getParameterTypes()) {
            all.add(each.getSimpleName());
        }
        List<String> thrown = new ArrayList<>();
        for (Class<?> each : method.getExceptionTypes()) {
            thrown.add(each.getSimpleName());
        }
        return method.getReturnType().getSimpleName() + " " + method.getName() + "(" + String.join(", ", all) + ")"
                + (thrown.isEmpty() ? "" : " throws " + String.join(", ", thrown));
    }

    private static void constructors() {
        int modifiers = Beaverhall.class.getModifiers();
        Due.is("public and final", Modifier.isPublic(modifiers) && Modifier.isFinal(modifiers), true);
        Constructor<?>[] all = Beaverhall.class.getDeclaredConstructors();
        Due.is("one constructor", all.length, 1);
        Due.is("without arguments", all[0].getParameterCount(), 0);
        Due.is("public", Modifier.isPublic(all[0].getModifiers()), true);
    }

    private static void fields() {
        Set<String> face = new HashSet<>();
        for (Method each : Beaverhall.class.getDeclaredMethods()) {
            if (Modifier.isPublic(each.getModifiers())) {
                face.add(each.getName());
            }
        }
        List<Class<?>> classes = new ArrayList<>(List.of(Beaverhall.class));
        classes.addAll(List.of(Beaverhall.class.getDeclaredClasses()));
        Due.is("at most twelve classes", classes.size() <= 12, true);
        for (Field each : Beaverhall.class.getDeclaredFields()) {
            Due.is("private " + each.getName(), isHidden(each), true);
        }
        for (Class<?> each : classes) {
            for (Field field : each.getDeclaredFields()) {
                boolean isStatic = Modifier.isStatic(field.getModifiers());
                Due.is("static and final " + field, !isStatic || Modifier.isFinal(field.getModifiers()), true);
            }
            for (Method method : each.getDeclaredMethods()) {
                boolean isFace = each == Beaverhall.class && Modifier.isPublic(method.getModifiers());
                Due.is("a name of the face for " + method, !isFace && face.contains(method.getName()), false);
                Due.is("at most seven parameters of " + method, method.getParameterCount() <= 7, true);
            }
        }
    }
}
