import java.io.File;
import java.io.IOException;
import java.lang.reflect.Method;
import java.lang.reflect.Modifier;
import java.nio.file.Files;
import java.nio.file.Path;
import java.util.List;
import java.util.Set;
import java.util.TreeSet;
import java.util.regex.Matcher;
import java.util.regex.Pattern;

/** README.md: the calls of its example answer what stands behind them, and it names every test. */
public final class ReadmeTest {
    private static final Pattern CALL = Pattern.compile("shelf\\.(\\w+)\\((.*)\\); *// (\\S+): .*");
    private static final Check CHECK = new Check("ReadmeTest");

    private static Method method(String name) {
        for (Method method : RecordShelf.class.getDeclaredMethods()) {
            if (Modifier.isPublic(method.getModifiers()) && method.getName().equals(name)) {
                return method;
            }
        }
        throw new IllegalArgumentException("README.md calls " + name + ", which is no call of the face");
    }

    private static Object argument(String written, Class<?> type) {
        if (type == char.class) {
            return written.charAt(1);
        }
        long number = Long.decode(written);
        return type == long.class ? (Object) number : (Object) (int) number;
    }

    /** A character may be a space, but no comma stands between quotes there. */
    private static Object[] arguments(String written, Class<?>[] types) {
        String[] parts = written.isEmpty() ? new String[0] : written.split(", ");
        CHECK.due("how many arguments in (" + written + ")", parts.length, types.length);
        Object[] values = new Object[types.length];
        for (int i = 0; i < types.length; i++) {
            values[i] = argument(parts[i], types[i]);
        }
        return values;
    }

    private static long number(Object answer) {
        return answer instanceof Boolean ? (Boolean) answer ? 1 : 0 : ((Number) answer).longValue();
    }

    private static long due(String written) throws ReflectiveOperationException {
        if (written.equals("true") || written.equals("false")) {
            return written.equals("true") ? 1 : 0;
        }
        return Character.isLetter(written.charAt(0)) ? RecordShelf.class.getField(written).getInt(null) : Long.parseLong(written);
    }

    private static void example(List<String> lines) throws ReflectiveOperationException {
        RecordShelf shelf = new RecordShelf();
        Set<String> called = new TreeSet<>();
        for (String line : lines) {
            Matcher matcher = CALL.matcher(line);
            if (matcher.matches()) {
                Method method = method(matcher.group(1));
                Object answer = method.invoke(shelf, arguments(matcher.group(2), method.getParameterTypes()));
                CHECK.due(line, number(answer), due(matcher.group(3)));
                called.add(method.getName());
            } else {
                CHECK.due("a call without its answer: " + line, line.startsWith("shelf."), false);
            }
        }
        for (Method method : RecordShelf.class.getDeclaredMethods()) {
            if (Modifier.isPublic(method.getModifiers())) {
                CHECK.due(method.getName() + " is in the example", called.contains(method.getName()), true);
            }
        }
    }

    private static void refusals(String readme) throws ReflectiveOperationException {
        String[] names = {"NONE", "ROOM", "LEADER", "DIRECTORY", "TOTAL", "FIELD", "END"};
        for (String name : names) {
            String row = "| `" + name + "`, " + due(name) + " | ";
            CHECK.due(name + " is explained", readme.contains(row), true);
        }
        CHECK.due("false is explained", readme.contains("| `false` | "), true);
    }

    private static void namesOfTests(String readme) {
        CHECK.due("how tests are run", readme.contains("\n    .ci/run\n"), true);
        for (String name : new File("src/test/java").list()) {
            if (name.endsWith("Test.java")) {
                String test = name.substring(0, name.length() - ".java".length());
                CHECK.due(test + " is in a table", readme.contains("\n| " + test + " | "), true);
            }
        }
    }

    public static void main(String[] args) throws IOException, ReflectiveOperationException {
        Path readme = Path.of("README.md");
        example(Files.readAllLines(readme));
        refusals(Files.readString(readme));
        namesOfTests(Files.readString(readme));
        CHECK.end();
    }
}
