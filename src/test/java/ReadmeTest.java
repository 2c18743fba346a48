import java.io.IOException;
import java.lang.reflect.Method;
import java.lang.reflect.Modifier;
import java.nio.file.Files;
import java.nio.file.Path;
import java.util.Set;
import java.util.TreeSet;
import java.util.regex.Matcher;
import java.util.regex.Pattern;

/** README.md's run of calls, carried out as it stands there. It is run in the project's folder, as .ci/run does. */
public final class ReadmeTest {
    private static final Pattern MADE = Pattern.compile("ContentStore store = new ContentStore\\((\\d+)\\);.*");
    private static final Pattern CALL = Pattern.compile("store\\.(\\w+)\\(([^)]*)\\);\\s*// (-?\\d+|true|false)(:.*)?");

    public static void main(String[] args) throws IOException, ReflectiveOperationException {
        ContentStore store = null;
        Set<String> called = new TreeSet<>();
        for (String line : Files.readAllLines(Path.of("README.md"))) {
            Matcher made = MADE.matcher(line);
            store = made.matches() ? new ContentStore(Integer.parseInt(made.group(1))) : store;
            if (line.startsWith("store.")) {
                called.add(call(store, line));
            }
        }
        for (Method each : ContentStore.class.getDeclaredMethods()) {
            Check.due(each.getName() + " is private, or README.md shows it",
                    !Modifier.isPublic(each.getModifiers()) || called.contains(each.getName()), true);
        }
        Check.finish();
    }

    private static String call(ContentStore store, String line) throws ReflectiveOperationException {
        Matcher call = CALL.matcher(line);
        boolean isRead = store != null && call.matches();
        Check.due("a line that can be read: " + line, isRead, true);
        if (!isRead) {
            return "";
        }
        Method method = methodNamed(call.group(1));
        Object answer = method.invoke(store, arguments(method, call.group(2)));
        Check.due(line + " answered " + answer, answer.toString().equals(call.group(3)), true);
        return call.group(1);
    }

    private static Method methodNamed(String name) throws NoSuchMethodException {
        for (Method each : ContentStore.class.getMethods()) {
            if (each.getName().equals(name)) {
                return each;
            }
        }
        throw new NoSuchMethodException(name);
    }

    private static Object[] arguments(Method method, String text) {
        String[] written = text.isEmpty() ? new String[0] : text.split(", ");
        Class<?>[] types = method.getParameterTypes();
        Object[] values = new Object[written.length];
        for (int i = 0; i < written.length; i++) {
            long value = Long.decode(written[i].replace("L", ""));
            if (types[i] == long.class) {
                values[i] = value;
            } else {
                values[i] = (int) value;
            }
        }
        return values;
    }
}
