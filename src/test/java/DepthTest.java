import java.io.File;
import java.io.PrintWriter;
import java.io.StringWriter;
import java.lang.reflect.Field;
import java.lang.reflect.Modifier;
import java.util.ArrayList;
import java.util.HashMap;
import java.util.HashSet;
import java.util.List;
import java.util.Map;
import java.util.Optional;
import java.util.Set;
import java.util.regex.Matcher;
import java.util.regex.Pattern;
import java.util.spi.ToolProvider;

/** LANGUAGE.md, rules 6, 8 and 11, as far as the compiled classes tell of them. */
public final class DepthTest {
    private static final int DEEPEST = 8;
    private static final int MOST_FIELDS = 20;
    private static final Pattern HEAD = Pattern.compile("^  (?:[\\w.\\[\\]$]+ )*([\\w.$]+)\\([^)]*\\).*;$");
    private static final Pattern SHAPE = Pattern.compile("^    descriptor: (\\(.*)$");
    private static final Pattern CALL = Pattern.compile(
            "invoke\\w+ +#\\d+(?:, +\\d+)? +// (?:Interface)?Method (?:([\\w/$]+)\\.)?\"?([\\w<>]+)\"?:(\\(.*)$");
    private static final Map<String, Set<String>> calls = new HashMap<>();
    private static final Map<String, Integer> depths = new HashMap<>();
    private static final Set<String> standing = new HashSet<>();

    public static void main(String[] args) {
        List<Class<?>> classes = new ArrayList<>(List.of(Beaverhall.class));
        classes.addAll(List.of(Beaverhall.class.getDeclaredClasses()));
        for (Class<?> each : classes) {
            fields(each);
        }
        // javap comes with javac, but .ci/run is promised nothing beside javac and java.
        Optional<ToolProvider> javap = ToolProvider.findFirst("javap");
        if (javap.isEmpty()) {
            System.out.println("javap is not here: the depth of calls was not looked at");
            Due.end();
            return;
        }
        for (Class<?> each : classes) {
            read(each, javap.get());
        }
        Due.is("the methods that were read", calls.size() > 100, true);
        int deepest = 0;
        for (String each : calls.keySet()) {
            deepest = Math.max(deepest, depth(each));
        }
        Due.is("the calls were read: some go deep", deepest >= 5, true);
        Due.is("calls go at most eight deep, and they go " + deepest, deepest <= DEEPEST, true);
        Due.end();
    }

    private static void fields(Class<?> one) {
        int count = 0;
        for (Field each : one.getDeclaredFields()) {
            count += Modifier.isStatic(each.getModifiers()) ? 0 : 1;
        }
        Due.is("at most twenty fields of " + one.getName(), count <= MOST_FIELDS, true);
    }

    private static void read(Class<?> one, ToolProvider javap) {
        String method = "";
        String name = "";
        for (String line : shown(one, javap).split("\\R")) {
            Matcher head = HEAD.matcher(line);
            Matcher shape = SHAPE.matcher(line);
            Matcher call = CALL.matcher(line);
            if (head.matches()) {
                name = head.group(1).equals(one.getName()) ? "<init>" : head.group(1);
            } else if (shape.matches()) {
                method = one.getName() + "." + name + shape.group(1);
                calls.put(method, new HashSet<>());
            } else if (call.find()) {
                String owner = call.group(1) == null ? one.getName() : call.group(1);
                if (owner.startsWith("Beaverhall")) {
                    calls.get(method).add(owner + "." + call.group(2) + call.group(3));
                }
            }
            Due.is("no lambda, lock or catch in " + one.getName(),
                    line.matches(".*(invokedynamic|monitorenter|Exception table).*"), false);
        }
    }

    private static String shown(Class<?> one, ToolProvider javap) {
        StringWriter text = new StringWriter();
        PrintWriter out = new PrintWriter(text);
        String path = System.getProperty("java.class.path").split(File.pathSeparator)[0];
        int answer = javap.run(out, out, "-p", "-c", "-s", path + File.separator + one.getName() + ".class");
        out.flush();
        Due.is("javap of " + one.getName(), answer, 0);
        return text.toString();
    }

    /** How many calls stand open at most from a method on, itself counted; a call of itself is recursion, and is not. */
    private static int depth(String method) {
        Integer known = depths.get(method);
        if (known != null) {
            return known;
        }
        standing.add(method);
        int deepest = 0;
        for (String each : calls.get(method)) {
            Due.is("a known method: " + each, calls.containsKey(each), true);
            boolean isAround = standing.contains(each) && !each.equals(method);
            Due.is("methods that call one another: " + method + " and " + each, isAround, false);
            if (!standing.contains(each) && calls.containsKey(each)) {
                deepest = Math.max(deepest, depth(each));
            }
        }
        standing.remove(method);
        depths.put(method, deepest + 1);
        return deepest + 1;
    }
}
