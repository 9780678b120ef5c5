import java.lang.reflect.Method;
import java.lang.reflect.Modifier;
import java.nio.file.Files;
import java.nio.file.Path;
import java.util.Arrays;
import java.util.Set;
import java.util.TreeSet;
import java.util.regex.Matcher;
import java.util.regex.Pattern;

/** README.md's example: each call answers what stands behind it, and every call of the face is shown. */
public final class ReadmeTest {
    private static final Pattern CALL = Pattern.compile("bench\\.(\\w+)\\(([^)]*)\\);\\s+// (-?\\w+)(:.*)?");
    private static final Check CHECK = new Check();

    public static void main(String[] args) throws Exception {
        TuneBench bench = new TuneBench();
        Set<String> shown = new TreeSet<>();
        for (String line : Files.readAllLines(Path.of("README.md"))) {
            Matcher call = CALL.matcher(line);
            boolean found = call.matches();
            CHECK.due("a line of the example can be read: " + line, line.startsWith("bench.") && !found, false);
            if (found) {
                shown.add(call.group(1));
                CHECK.due(line, answer(bench, call.group(1), call.group(2)), call.group(3));
            }
        }
        for (Method method : face()) {
            CHECK.due("shown in README.md: " + method.getName(), shown.contains(method.getName()), true);
        }
        CHECK.finish();
    }

    private static Method[] face() {
        return Arrays.stream(TuneBench.class.getDeclaredMethods())
            .filter(method -> Modifier.isPublic(method.getModifiers())).toArray(Method[]::new);
    }

    private static String answer(TuneBench bench, String name, String told) throws Exception {
        Object[] numbers = told.isEmpty() ? new Object[0]
            : Arrays.stream(told.split(", ")).map(Integer::valueOf).toArray();
        for (Method method : face()) {
            if (method.getName().equals(name) && method.getParameterCount() == numbers.length) {
                return String.valueOf(method.invoke(bench, numbers));
            }
        }
        return "no such call";
    }
}
