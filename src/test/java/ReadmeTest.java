import java.io.File;
import java.lang.reflect.Method;
import java.lang.reflect.Modifier;
import java.nio.charset.StandardCharsets;
import java.nio.file.Files;
import java.nio.file.Path;
import java.util.regex.Matcher;
import java.util.regex.Pattern;

/** README.md: its example's calls answer what stands behind them, and it names each call and each test. */
public final class ReadmeTest {
    private static final Pattern CALL = Pattern.compile("x\\.(\\w+)\\((.*)\\);\\s+// (-?\\d+): .+");

    private static Method methodOf(String name) {
        for (Method m : HotSprings.class.getMethods()) {
            if (m.getName().equals(name)) {
                return m;
            }
        }
        throw new IllegalArgumentException("README.md calls " + name);
    }

    private static Object value(Class<?> type, String text) {
        if (type == boolean.class) {
            return Boolean.valueOf(text);
        }
        long n = Long.decode(text.replace("L", ""));
        return type == long.class ? (Object) n : (Object) (int) n;
    }

    private static void call(HotSprings x, String line) throws ReflectiveOperationException {
        Matcher found = CALL.matcher(line);
        if (!found.matches()) {
            throw new IllegalArgumentException("README.md has a line that is no call with its answer: " + line);
        }
        Method m = methodOf(found.group(1));
        String[] texts = found.group(2).isEmpty() ? new String[0] : found.group(2).split(", ");
        Class<?>[] types = m.getParameterTypes();
        Due.due("how many arguments has " + line, texts.length, types.length);
        Object[] values = new Object[types.length];
        for (int i = 0; i < types.length; i++) {
            values[i] = value(types[i], texts[i]);
        }
        Due.due(line, (Integer) m.invoke(x, values), Long.parseLong(found.group(3)));
    }

    private static void example(String page) throws ReflectiveOperationException {
        int start = page.indexOf("```java\n") + 8;
        String[] lines = page.substring(start, page.indexOf("```", start)).split("\n");
        Due.due("first line: " + lines[0], lines[0].equals("HotSprings x = new HotSprings();") ? 1 : 0, 1);
        HotSprings x = new HotSprings();
        for (int i = 1; i < lines.length; i++) {
            call(x, lines[i]);
        }
        Due.due("calls are missing", lines.length > 10 ? 1 : 0, 1);
    }

    private static void named(String page, String name) {
        Due.due("README.md names " + name, page.contains("`" + name + "`") ? 1 : 0, 1);
    }

    public static void main(String[] args) throws Exception {
        String page = Files.readString(Path.of("README.md"), StandardCharsets.UTF_8);
        example(page);
        for (Method m : HotSprings.class.getDeclaredMethods()) {
            if (Modifier.isPublic(m.getModifiers())) {
                named(page, m.getName());
            }
        }
        for (String file : new File("src/test/java").list()) {
            if (file.endsWith("Test.java")) {
                named(page, file.substring(0, file.length() - 5));
            }
        }
        Due.end("ReadmeTest");
    }
}
