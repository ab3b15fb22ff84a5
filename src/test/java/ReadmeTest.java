import java.io.IOException;
import java.lang.reflect.Method;
import java.nio.file.Files;
import java.nio.file.Path;
import java.util.Set;
import java.util.TreeSet;
import java.util.regex.Matcher;
import java.util.regex.Pattern;

/** README.md's examples answer what stands behind them, and every call is told there; run from the project's folder. */
public final class ReadmeTest {
    private static final Pattern EXAMPLE = Pattern.compile("h\\.(\\w+)\\((.*?)\\);\\s+// (-?\\d+)(\\D.*)?");

    private ReadmeTest() {
    }

    public static void main(String[] args) throws IOException, ReflectiveOperationException {
        String readme = Files.readString(Path.of("README.md"));
        Set<String> shown = new TreeSet<>();
        Matcher blocks = Pattern.compile("(?s)```java\n(.*?)```").matcher(readme);
        while (blocks.find()) block(blocks.group(1), shown);
        Set<String> face = new TreeSet<>();
        for (Method m : HedgeWays.class.getMethods()) {
            if (m.getDeclaringClass() == HedgeWays.class) face.add(m.getName());
        }
        Checks.due("the calls that README.md shows", shown.toString(), face.toString());
        Checks.due("README.md tells how to run the tests", readme.contains("bash .ci/run") ? 1 : 0, 1);
        Checks.end("ReadmeTest");
    }

    /** Each block goes on with one object, from where it is made anew. */
    private static void block(String block, Set<String> shown) throws ReflectiveOperationException {
        HedgeWays h = new HedgeWays();
        for (String line : block.split("\n")) {
            if (line.isBlank() || line.startsWith("//")) continue;
            if (line.startsWith("HedgeWays h = new HedgeWays();")) {
                h = new HedgeWays();
                continue;
            }
            Matcher m = EXAMPLE.matcher(line);
            Checks.due("README.md can be read: " + line, m.matches() ? 1 : 0, 1);
            if (!m.matches()) continue;
            shown.add(m.group(1));
            Checks.due("README.md: " + line, answer(h, m.group(1), m.group(2)), Long.parseLong(m.group(3)));
        }
    }

    private static long answer(HedgeWays h, String name, String arguments) throws ReflectiveOperationException {
        String[] told = arguments.isBlank() ? new String[0] : arguments.split(",\\s*");
        for (Method m : HedgeWays.class.getMethods()) {
            if (!m.getName().equals(name) || m.getParameterCount() != told.length) continue;
            Object[] values = new Object[told.length];
            for (int i = 0; i < told.length; i++) values[i] = value(told[i], m.getParameterTypes()[i]);
            return ((Number) m.invoke(h, values)).longValue();
        }
        return Long.MIN_VALUE;
    }

    private static Object value(String told, Class<?> type) {
        if (type == boolean.class) return Boolean.parseBoolean(told);
        long number = Long.decode(told.replace("L", ""));
        if (type == int.class) return (int) number;
        return number;
    }
}
