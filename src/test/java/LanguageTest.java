import java.io.IOException;
import java.lang.reflect.Field;
import java.lang.reflect.Method;
import java.lang.reflect.Modifier;
import java.nio.charset.StandardCharsets;
import java.nio.file.Files;
import java.nio.file.Path;
import java.util.ArrayList;
import java.util.Arrays;
import java.util.Collections;
import java.util.List;
import java.util.Set;
import java.util.regex.Matcher;
import java.util.regex.Pattern;

/** What LANGUAGE.md rules out, seen in the compiled classes and in the lines of the methods. */
public final class LanguageTest {
    private static final Due due = new Due("LanguageTest");
    // Of what rule 4 lets be used the class needs these alone.
    private static final Set<String> LIBRARY = Set.of(
        "java/lang/Object", "java/lang/Object.<init>", "java/lang/System", "java/lang/System.arraycopy",
        "java/lang/Math", "java/lang/Math.min", "java/lang/Math.max", "java/lang/Integer", "java/lang/Integer.bitCount",
        // javac notes down where Long.MIN_VALUE comes from.
        "java/lang/Long");
    private static final Set<Class<?>> CONSTANTS = Set.of(
        int.class, long.class, boolean.class, char.class, String.class,
        int[].class, long[].class, char[].class, byte[].class);
    private static final Set<String> OF_EVERY_OBJECT = Set.of("equals", "hashCode", "toString", "clone", "finalize");
    private static final int MOST_PARAMETERS = 7;
    private static final int MOST_LINES = 60;

    public static void main(String[] args) throws IOException {
        List<Class<?>> all = new ArrayList<>(Arrays.asList(ForcedRings.class.getDeclaredClasses()));
        all.add(ForcedRings.class);
        for (Class<?> each : all) {
            library(each);
            fields(each);
            methods(each);
            due.is("rule 2, below Object alone: " + each, each.getSuperclass() == Object.class ? 1 : 0, 1);
            due.is("rule 11, twenty fields: " + each, ownFields(each) <= 20 ? 1 : 0, 1);
        }
        lengths();
        due.end();
    }

    private static boolean isOwn(String name) {
        String plain = name.replaceFirst("^\\[+L?", "");
        return plain.startsWith("ForcedRings") || plain.length() == 1;
    }

    private static void library(Class<?> type) throws IOException {
        ClassFile file = ClassFile.of(type);
        for (String name : file.named()) {
            if (!isOwn(name)) {
                due.is("rule 4, used in " + type.getName() + ": " + name, LIBRARY.contains(name) ? 1 : 0, 1);
            }
        }
        due.is("rules 2 and 10, links late: " + type.getName(), file.linksLate() ? 1 : 0, 0);
    }

    private static void fields(Class<?> type) {
        for (Field field : type.getDeclaredFields()) {
            boolean fixed = Modifier.isStatic(field.getModifiers());
            boolean fits = !fixed || Modifier.isFinal(field.getModifiers()) && CONSTANTS.contains(field.getType());
            due.is("rule 5: " + field, fits ? 1 : 0, 1);
            boolean known = field.getType() == String.class || isOwn(field.getType().getName())
                    || field.getType().isPrimitive();
            due.is("rule 3: " + field, known ? 1 : 0, 1);
        }
    }

    private static long ownFields(Class<?> type) {
        return Arrays.stream(type.getDeclaredFields()).filter(field -> !Modifier.isStatic(field.getModifiers())).count();
    }

    private static void methods(Class<?> type) {
        for (Method method : type.getDeclaredMethods()) {
            due.is("rule 11, parameters: " + method, method.getParameterCount() <= MOST_PARAMETERS ? 1 : 0, 1);
            due.is("rule 6, exceptions: " + method, method.getExceptionTypes().length, 0);
            due.is("rule 6, a name of every object: " + method, OF_EVERY_OBJECT.contains(method.getName()) ? 1 : 0, 0);
            due.is("rule 6: " + method, method.getModifiers() & (Modifier.SYNCHRONIZED | Modifier.NATIVE), 0);
        }
    }

    /** Rule 11: methods stay short. */
    private static void lengths() throws IOException {
        Path file = Path.of("src", "main", "java", "ForcedRings.java");
        List<String> lines = Files.readAllLines(file, StandardCharsets.ISO_8859_1);
        Pattern head = Pattern.compile("( {4}| {8})\\S.*\\) \\{");
        int methods = 0;
        for (int i = 0; i < lines.size(); i++) {
            Matcher found = head.matcher(lines.get(i));
            if (found.matches()) {
                int length = lines.subList(i, lines.size()).indexOf(found.group(1) + "}") + 1;
                due.is("rule 11, lines: " + lines.get(i), length > 0 && length <= MOST_LINES ? 1 : 0, 1);
                methods++;
            }
        }
        due.is("methods were found", methods > 100 ? 1 : 0, 1);
        due.is("rule 1, one class outside", Collections.frequency(lines, "}"), 1);
    }
}
