import java.lang.reflect.Method;
import java.lang.reflect.Modifier;
import java.nio.file.Files;
import java.nio.file.Path;
import java.util.List;
import java.util.regex.Matcher;
import java.util.regex.Pattern;

/** What README.md says: its example, call by call, and a line of its table for every method. */
public final class ReadmeTests {
    private static final Pattern CALL = Pattern.compile("bench\\.(\\w+)\\(([^)]*)\\);\\s*// (-?\\d+):.*");

    public static void main(String[] args) throws Exception {
        List<String> lines = Files.readAllLines(Path.of("README.md"));
        Due.says("README.md's example");
        Due.due("calls that were found", example(lines), 20);
        Due.says("README.md's table");
        table(lines);
        Due.end();
    }

    private static int example(List<String> lines) throws Exception {
        FilterBench bench = new FilterBench();
        int found = 0;
        for (String line : lines) {
            Matcher m = CALL.matcher(line);
            if (!m.matches()) continue;
            found++;
            Due.due(m.group(1) + "(" + m.group(2) + ")", answer(bench, m.group(1), m.group(2)), Long.parseLong(m.group(3)));
        }
        return found;
    }

    private static long answer(FilterBench bench, String name, String words) throws Exception {
        String[] parts = words.isEmpty() ? new String[0] : words.split(", ");
        for (Method method : FilterBench.class.getMethods()) {
            if (!method.getName().equals(name)) continue;
            Class<?>[] types = method.getParameterTypes();
            if (types.length != parts.length) break;
            Object[] values = new Object[parts.length];
            for (int i = 0; i < parts.length; i++) {
                values[i] = types[i] == long.class ? (Object) Long.valueOf(parts[i]) : (Object) Integer.valueOf(parts[i]);
            }
            return ((Number) method.invoke(bench, values)).longValue();
        }
        throw new IllegalStateException("no method " + name + " of " + parts.length);
    }

    private static void table(List<String> lines) {
        for (Method method : FilterBench.class.getDeclaredMethods()) {
            if (!Modifier.isPublic(method.getModifiers())) continue;
            String start = "| `" + method.getName() + "(";
            Due.due("lines of " + method.getName(), lines.stream().filter(v -> v.startsWith(start)).count(), 1);
        }
    }
}
