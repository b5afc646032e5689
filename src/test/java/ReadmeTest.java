import java.io.IOException;
import java.lang.reflect.Method;
import java.lang.reflect.Modifier;
import java.nio.file.Files;
import java.nio.file.Path;
import java.util.List;
import java.util.Set;
import java.util.TreeSet;
import java.util.regex.Matcher;
import java.util.regex.Pattern;

/** Runs the examples of README.md, and looks whether it tells of each call. */
public final class ReadmeTest {
    private static final Pattern ROW =
            Pattern.compile("x\\.(\\w+)\\((.*)\\);\\s*// (BAD - 1|[\\w-]+):.*");
    private static final String NEW_OBJECT = "PageSetter x = new PageSetter();";

    private static PageSetter x;
    private static int examples = 0;
    private static final Set<String> shown = new TreeSet<>();
    private static final Set<String> refused = new TreeSet<>();

    private ReadmeTest() { }

    public static void main(String[] args) throws IOException, ReflectiveOperationException {
        List<String> lines = Files.readAllLines(Path.of("README.md"));
        boolean inExample = false;
        for (String line : lines) {
            if (line.startsWith("```")) {
                inExample = line.equals("```java");
            } else if (inExample) {
                runRow(line);
            }
        }
        Check.due("examples on an object of their own", examples, 2);
        eachCallIsTold(lines);
        Check.finish();
    }

    private static void runRow(String line) throws ReflectiveOperationException {
        if (line.equals(NEW_OBJECT)) {
            x = new PageSetter();
            examples++;
            return;
        }
        Matcher row = ROW.matcher(line);
        Check.due("README.md: a row with its answer: " + line, row.matches(), true);
        if (row.matches()) {
            String name = row.group(1);
            String due = row.group(3);
            Check.due("README.md: " + line, call(name, row.group(2).split(", ")), valueOf(due));
            (isRefusal(due) ? refused : shown).add(name);
        }
    }

    private static boolean isRefusal(String due) {
        return due.startsWith("BAD") || due.equals("false");
    }

    private static long valueOf(String due) {
        switch (due) {
            case "true": return 1;
            case "false": return 0;
            case "BAD": return -1;
            case "BAD - 1": return -2;
            case "FULL": return -2;
            case "HIDDEN": return -100;
            default: return Long.parseLong(due);
        }
    }

    private static long call(String name, String[] given) throws ReflectiveOperationException {
        for (Method method : PageSetter.class.getMethods()) {
            Class<?>[] types = method.getParameterTypes();
            if (!method.getName().equals(name) || types.length != given.length) {
                continue;
            }
            Object[] values = new Object[given.length];
            for (int i = 0; i < values.length; i++) {
                boolean isNumber = types[i] == int.class;
                values[i] = isNumber ? (Object) Integer.valueOf(given[i]) : Boolean.valueOf(given[i]);
            }
            Object answer = method.invoke(x, values);
            return answer instanceof Boolean ? ((Boolean) answer ? 1 : 0) : (Integer) answer;
        }
        Check.due("README.md: a call " + name + " of " + given.length, false, true);
        return Long.MIN_VALUE;
    }

    /** Each call of the class has a row in a table, and is shown done and refused. */
    private static void eachCallIsTold(List<String> lines) {
        for (Method method : PageSetter.class.getDeclaredMethods()) {
            if (!Modifier.isPublic(method.getModifiers())) {
                continue;
            }
            String name = method.getName();
            long rows = lines.stream().filter(line -> line.startsWith("| `" + name + "(")).count();
            Check.due("README.md: rows for " + name, rows, 1);
            Check.due("README.md: " + name + " in an example", shown.contains(name), true);
            Check.due("README.md: " + name + " refused in an example", refused.contains(name), true);
        }
    }
}
