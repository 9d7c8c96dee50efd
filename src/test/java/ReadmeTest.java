import java.io.IOException;
import java.lang.reflect.Method;
import java.lang.reflect.Modifier;
import java.nio.file.Files;
import java.nio.file.Path;
import java.util.regex.Matcher;
import java.util.regex.Pattern;

/** What README.md says of the class: its example answers as told there, and it names every call. */
public final class ReadmeTest {
    private static final Path README = Path.of("README.md");
    private static final Pattern TEXT = Pattern.compile("for \\(char letter : \"([^\"]*)\"");
    private static final Pattern CALL = Pattern.compile("(?m)^town\\.(\\w+)\\(([^)]*)\\); +// (-?\\d+)");

    public static void main(String[] args) throws ReflectiveOperationException, IOException {
        String readme = Files.readString(README);
        example(readme);
        everyCallIsNamed(readme);
        Check.end();
    }

    private static void example(String readme) throws ReflectiveOperationException {
        SpikeTown town = new SpikeTown();
        Matcher text = TEXT.matcher(readme);
        Check.holds("README.md tells a text", text.find());
        Check.write(town, text.group(1));
        Matcher call = CALL.matcher(readme);
        int calls = 0;
        while (call.find()) {
            calls++;
            long got = answer(town, call.group(1), call.group(2));
            Check.due("README.md: " + call.group(1) + "(" + call.group(2) + ")", got, Long.parseLong(call.group(3)));
        }
        long lines = readme.lines().filter(line -> line.startsWith("town.")).count();
        Check.holds("README.md calls something", lines > 0);
        Check.due("calls with an answer in README.md", calls, lines);
    }

    private static long answer(SpikeTown town, String name, String told) throws ReflectiveOperationException {
        Method method = methodOf(name);
        Class<?>[] types = method.getParameterTypes();
        String[] texts = told.isEmpty() ? new String[0] : told.split(", ");
        Object[] values = new Object[texts.length];
        for (int i = 0; i < texts.length; i++) {
            values[i] = valueOf(types[i], texts[i]);
        }
        return ((Number) method.invoke(town, values)).longValue();
    }

    private static Method methodOf(String name) throws NoSuchMethodException {
        for (Method method : SpikeTown.class.getDeclaredMethods()) {
            if (method.getName().equals(name)) {
                return method;
            }
        }
        throw new NoSuchMethodException(name);
    }

    private static Object valueOf(Class<?> type, String text) {
        if (type == boolean.class) {
            return Boolean.valueOf(text);
        }
        if (type == long.class) {
            return Long.valueOf(text);
        }
        return Integer.valueOf(text);
    }

    private static void everyCallIsNamed(String readme) {
        for (Method method : SpikeTown.class.getDeclaredMethods()) {
            if (Modifier.isPublic(method.getModifiers())) {
                Check.holds("README.md names " + method.getName(), readme.contains("`" + method.getName() + "`"));
            }
        }
    }
}
