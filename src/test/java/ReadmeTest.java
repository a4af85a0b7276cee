import java.io.IOException;
import java.lang.reflect.Method;
import java.lang.reflect.Modifier;
import java.nio.file.Files;
import java.nio.file.Path;
import java.util.HashMap;
import java.util.Map;
import java.util.regex.Matcher;
import java.util.regex.Pattern;

/** What README.md shows is so: its examples are done line by line; run from the project's directory. */
public final class ReadmeTest {
    private static final Pattern EXAMPLE = Pattern.compile("(?s)```java\n(.*?)```");
    private static final Pattern MADE = Pattern.compile("SpansAway x = new SpansAway\\(\\);.*");
    private static final Pattern CALL =
        Pattern.compile("(?:int (\\w+) = )?x\\.(\\w+)\\(([^)]*)\\); +// (-?\\d+|true|false)(?:: .*)?");

    private final Check check = new Check("ReadmeTest");
    private final Map<String, Integer> names = new HashMap<>();
    private SpansAway x = null;

    private static Method method(String name) {
        for (Method m : SpansAway.class.getDeclaredMethods()) {
            if (m.getName().equals(name) && Modifier.isPublic(m.getModifiers())) {
                return m;
            }
        }
        throw new IllegalArgumentException("no call " + name);
    }

    private Object argument(String text, Class<?> type) {
        if (type == boolean.class) {
            return Boolean.valueOf(text);
        }
        return names.containsKey(text) ? names.get(text) : Integer.valueOf(text);
    }

    private Object answer(String name, String arguments) throws ReflectiveOperationException {
        Method method = method(name);
        Class<?>[] types = method.getParameterTypes();
        String[] texts = arguments.isEmpty() ? new String[0] : arguments.split(", ");
        Object[] values = new Object[types.length];
        for (int k = 0; k < types.length; k++) {
            values[k] = argument(texts[k], types[k]);
        }
        return method.invoke(x, values);
    }

    private void line(String line) throws ReflectiveOperationException {
        Matcher call = CALL.matcher(line);
        if (MADE.matcher(line).matches()) {
            x = new SpansAway();
            names.clear();
            names.put("SpansAway.NONE", SpansAway.NONE);
        } else if (!call.matches()) {
            check.fault("can't be done: " + line);
        } else {
            Object got = answer(call.group(2), call.group(3));
            check.yes(line + " [answered " + got + "]", got.toString().equals(call.group(4)));
            if (call.group(1) != null) {
                names.put(call.group(1), (Integer) got);
            }
        }
    }

    private void all() throws IOException, ReflectiveOperationException {
        String readme = Files.readString(Path.of("README.md"));
        Matcher example = EXAMPLE.matcher(readme);
        int examples = 0;
        while (example.find()) {
            examples++;
            check.about("example " + examples);
            for (String line : example.group(1).split("\n")) {
                line(line);
            }
        }
        check.about("README.md");
        check.is("examples", examples, 2);
        for (Method m : SpansAway.class.getDeclaredMethods()) {
            if (Modifier.isPublic(m.getModifiers())) {
                check.yes("names " + m.getName(), readme.contains("`" + m.getName() + "("));
            }
        }
        check.end();
    }

    public static void main(String[] args) throws IOException, ReflectiveOperationException {
        new ReadmeTest().all();
    }
}
