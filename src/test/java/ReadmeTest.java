import java.io.IOException;
import java.lang.reflect.Method;
import java.lang.reflect.Modifier;
import java.nio.file.Files;
import java.nio.file.Path;
import java.util.HashMap;
import java.util.HashSet;
import java.util.Map;
import java.util.Set;
import java.util.regex.Matcher;
import java.util.regex.Pattern;

/** README.md: each call that it shows answers what stands behind it, and it shows every call. */
public final class ReadmeTest {
    private static final Pattern CALL = Pattern.compile("x\\.(\\w+)\\(([^)]*)\\);\\s+// (-?\\d+): .*");

    public static void main(String[] args) throws IOException, ReflectiveOperationException {
        Map<String, Method> calls = new HashMap<>();
        for (Method method : PolesInALake.class.getDeclaredMethods()) {
            if (Modifier.isPublic(method.getModifiers())) {
                calls.put(method.getName(), method);
            }
        }
        String readme = Files.readString(Path.of("README.md"));
        Set<String> shown = makeCalls(readme.split("```java\n")[1].split("```")[0], calls);
        for (String name : calls.keySet()) {
            Due.isTrue("README.md shows " + name, shown.contains(name));
        }
        refusals(readme.replaceAll("\\s+", " "));
        tests(readme);
        Due.end();
    }

    private static Set<String> makeCalls(String lines, Map<String, Method> calls)
        throws ReflectiveOperationException {
        Set<String> shown = new HashSet<>();
        PolesInALake x = new PolesInALake();
        for (String line : lines.split("\n")) {
            Matcher call = CALL.matcher(line);
            if (call.matches()) {
                Method method = calls.get(call.group(1));
                Object[] numbers = numbers(method, call.group(2));
                long got = ((Number) method.invoke(x, numbers)).longValue();
                Due.due("README.md: " + line, got, Long.parseLong(call.group(3)));
                shown.add(call.group(1));
            } else {
                Due.isTrue("README.md: " + line,
                    line.isEmpty() || line.startsWith("// ") || line.startsWith("PolesInALake x = new "));
            }
        }
        return shown;
    }

    private static Object[] numbers(Method method, String told) {
        Class<?>[] types = method.getParameterTypes();
        String[] each = told.isEmpty() ? new String[0] : told.split(", ");
        Due.due("README.md: numbers of " + method.getName(), each.length, types.length);
        Object[] numbers = new Object[types.length];
        for (int k = 0; k < types.length; k++) {
            if (types[k] == boolean.class) {
                numbers[k] = Boolean.valueOf(each[k]);
            } else if (types[k] == long.class) {
                numbers[k] = Long.decode(each[k].replace("L", ""));
            } else {
                numbers[k] = Integer.decode(each[k]);
            }
        }
        return numbers;
    }

    private static void refusals(String readme) throws ReflectiveOperationException {
        for (String name : new String[] {"UNKNOWN", "OUTSIDE", "STATE", "FULL", "NONE"}) {
            int number = PolesInALake.class.getField(name).getInt(null);
            Due.isTrue("README.md tells " + name, readme.contains("`" + name + "` (" + number + ")"));
        }
    }

    private static void tests(String readme) throws IOException {
        try (var files = Files.list(Path.of("src/test/java"))) {
            for (Path file : (Iterable<Path>) files::iterator) {
                String name = file.getFileName().toString().replace(".java", "");
                Due.isTrue("README.md tells of " + name, readme.contains("`" + name + "`"));
            }
        }
    }
}
