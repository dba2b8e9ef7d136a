import java.lang.reflect.Method;
import java.lang.reflect.Modifier;
import java.nio.file.Files;
import java.nio.file.Path;
import java.util.Set;
import java.util.TreeSet;
import java.util.regex.Matcher;
import java.util.regex.Pattern;

/** The calls that README.md shows answer what it says, and every call of the face is among them. */
public final class ReadmeTests {
    private static final Due DUE = new Due();
    private static final Pattern CALL = Pattern.compile("cell\\.(\\w+)\\(([^)]*)\\); +// (-?\\d+): \\S.*");

    private static String example() throws Exception {
        Matcher block = Pattern.compile("(?s)```java\n(.*?)```").matcher(Files.readString(Path.of("README.md")));
        return block.find() ? block.group(1) : "";
    }

    private static Method named(String name) {
        for (Method method : CellDays.class.getDeclaredMethods()) {
            if (Modifier.isPublic(method.getModifiers()) && method.getName().equals(name)) return method;
        }
        throw new IllegalStateException("README.md shows " + name + "(), which the face has not");
    }

    private static Object[] values(Method method, String told) {
        Class<?>[] types = method.getParameterTypes();
        String[] parts = told.isEmpty() ? new String[0] : told.split(", ");
        Object[] values = new Object[parts.length];
        for (int i = 0; i < parts.length; i++) {
            boolean truth = i < types.length && types[i] == boolean.class;
            values[i] = truth ? (Object) Boolean.valueOf(parts[i]) : (Object) Integer.valueOf(parts[i]);
        }
        return values;
    }

    public static void main(String[] args) throws Exception {
        CellDays cell = new CellDays();
        Set<String> shown = new TreeSet<>(), face = new TreeSet<>();
        for (String line : example().split("\n")) {
            if (!line.startsWith("cell.")) continue;
            Matcher call = CALL.matcher(line);
            DUE.holds("a call with its answer: " + line, call.matches());
            if (!call.matches()) continue;
            Method method = named(call.group(1));
            Number got = (Number) method.invoke(cell, values(method, call.group(2)));
            DUE.is(line, Long.parseLong(call.group(3)), got.longValue());
            shown.add(method.getName());
        }
        for (Method method : CellDays.class.getDeclaredMethods()) {
            if (Modifier.isPublic(method.getModifiers())) face.add(method.getName());
        }
        DUE.same("the calls shown", face.toString(), shown.toString());
        DUE.end();
    }
}
