import java.io.IOException;
import java.lang.reflect.Method;
import java.lang.reflect.Modifier;
import java.nio.charset.StandardCharsets;
import java.nio.file.Files;
import java.nio.file.Path;
import java.util.Map;
import java.util.Set;
import java.util.TreeMap;
import java.util.TreeSet;
import java.util.regex.Matcher;
import java.util.regex.Pattern;

/** The examples of README.md, line by line: a call, and behind it the answer that the file tells. */
public final class ReadmeTest {
    private static final Pattern BLOCK = Pattern.compile("```java\n(.*?)```", Pattern.DOTALL);
    private static final Pattern EXAMPLE = Pattern.compile("canteen\\.(\\w+)\\((.*?)\\);\\s+// (-?\\d+)(:.*)?");
    private static final String NEW = "CanteenPlates canteen = new CanteenPlates();";

    private final Map<String, Method> methods = new TreeMap<>();
    private final Set<String> called = new TreeSet<>();
    private CanteenPlates canteen;

    public static void main(String[] args) throws ReflectiveOperationException, IOException {
        new ReadmeTest().examples(Files.readString(Path.of(System.getProperty("readme")), StandardCharsets.UTF_8));
        Due.end();
    }

    private void examples(String readme) throws ReflectiveOperationException {
        for (Method method : CanteenPlates.class.getDeclaredMethods()) {
            if (Modifier.isPublic(method.getModifiers())) {
                methods.put(method.getName(), method);
            }
        }
        Matcher block = BLOCK.matcher(readme);
        while (block.find()) {
            for (String line : block.group(1).split("\n")) {
                example(line);
            }
        }
        Due.same("README.md calls every method", called.toString(), methods.keySet().toString());
    }

    private void example(String line) throws ReflectiveOperationException {
        if (line.equals(NEW)) {
            canteen = new CanteenPlates();
            return;
        }
        Matcher example = EXAMPLE.matcher(line);
        boolean good = example.matches() && canteen != null && methods.containsKey(example.group(1));
        Due.same("README.md: is it a call and its answer? " + line, good ? "yes" : "no", "yes");
        if (good) {
            Method method = methods.get(example.group(1));
            called.add(method.getName());
            Object answer = method.invoke(canteen, arguments(method.getParameterTypes(), example.group(2)));
            Due.is("README.md: " + line, (Integer) answer, Long.parseLong(example.group(3)));
        }
    }

    private static Object[] arguments(Class<?>[] types, String text) throws ReflectiveOperationException {
        String[] parts = text.isEmpty() ? new String[0] : text.split(", ");
        Object[] values = new Object[parts.length];
        for (int place = 0; place < parts.length; place++) {
            long value = number(parts[place]);
            if (types[place] == long.class) {
                values[place] = value;
            } else {
                values[place] = (int) value;
            }
        }
        return values;
    }

    private static long number(String text) throws ReflectiveOperationException {
        if (text.startsWith("CanteenPlates.")) {
            return CanteenPlates.class.getField(text.substring(text.indexOf('.') + 1)).getInt(null);
        }
        return Long.decode(text.endsWith("L") ? text.substring(0, text.length() - 1) : text);
    }
}
