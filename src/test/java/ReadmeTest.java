import java.io.IOException;
import java.lang.reflect.InvocationTargetException;
import java.lang.reflect.Method;
import java.lang.reflect.Modifier;
import java.nio.charset.StandardCharsets;
import java.nio.file.Files;
import java.nio.file.Path;
import java.util.regex.Matcher;
import java.util.regex.Pattern;

/** What README.md tells of the calls: its example is gone through, and no call is left out. */
public final class ReadmeTest {
    private static final Due due = new Due("ReadmeTest");
    private static final Pattern EXAMPLE = Pattern.compile("```java\n(.*?)```", Pattern.DOTALL);
    private static final Pattern TEXT = Pattern.compile("\"([^\"]*)\"\\.toCharArray");
    private static final Pattern CALL = Pattern.compile("x\\.(\\w+)\\(([^)]*)\\);\\s*// (-?\\d+)\\b.*");

    public static void main(String[] args) throws IOException, ReflectiveOperationException {
        String page = Files.readString(Path.of("README.md"), StandardCharsets.UTF_8);
        goThroughExample(page);
        everyCallIsTold(page);
        due.end();
    }

    private static void goThroughExample(String page) throws ReflectiveOperationException {
        Matcher example = EXAMPLE.matcher(page);
        due.is("there is an example", example.find() ? 1 : 0, 1);
        ForcedRings x = new ForcedRings();
        int calls = 0;
        for (String line : example.group(1).split("\n")) {
            Matcher text = TEXT.matcher(line);
            if (text.find()) {
                Due.feedAll(x, text.group(1));
            }
            Matcher call = CALL.matcher(line);
            if (call.matches()) {
                due.is(line, answer(x, call.group(1), call.group(2)), Long.parseLong(call.group(3)));
                calls++;
            }
        }
        due.is("calls in the example", calls, 6);
    }

    private static long answer(ForcedRings x, String name, String numbers)
            throws IllegalAccessException, InvocationTargetException {
        String[] parts = numbers.isEmpty() ? new String[0] : numbers.split(", ");
        Object[] values = new Object[parts.length];
        for (int i = 0; i < parts.length; i++) {
            values[i] = Integer.parseInt(parts[i]);
        }
        return ((Number) face(name).invoke(x, values)).longValue();
    }

    private static Method face(String name) {
        for (Method method : ForcedRings.class.getDeclaredMethods()) {
            if (Modifier.isPublic(method.getModifiers()) && method.getName().equals(name)) {
                return method;
            }
        }
        throw new IllegalArgumentException("README.md calls " + name + ", which the face does not have");
    }

    private static void everyCallIsTold(String page) {
        String table = page.substring(page.indexOf("### The calls"));
        for (Method method : ForcedRings.class.getDeclaredMethods()) {
            if (Modifier.isPublic(method.getModifiers())) {
                boolean told = table.contains("`" + method.getName() + "(");
                due.is("README.md tells of " + method.getName(), told ? 1 : 0, 1);
            }
        }
    }
}
