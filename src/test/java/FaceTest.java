import java.io.IOException;
import java.lang.reflect.Constructor;
import java.lang.reflect.Field;
import java.lang.reflect.Method;
import java.lang.reflect.Modifier;
import java.nio.charset.StandardCharsets;
import java.nio.file.Files;
import java.nio.file.Path;
import java.util.Arrays;
import java.util.Set;
import java.util.TreeSet;
import java.util.regex.Pattern;

/** The public face as the document has it, and what LANGUAGE.md rules out. */
public final class FaceTest {
    private static final Due due = new Due("FaceTest");
    private static final String[] FACE = {
        "int points(int)", "int way(int)", "int lead(int,int)", "int of(int,int)", "int map()", "int rings(int)",
        "int ring(int,int)", "int taken(int,int)", "int covers(int,int)", "long paths(int,int,int)",
        "long loops(int,int)", "int forced(int)", "int allForced()", "int ahead(int,int)", "int order(int,int)",
        "int pattern(int,int)", "int has(int,int)", "long growth(int,int,int)", "long polynomial(int)",
        "int turn(int,int,int)", "int feed(int)", "int read()", "long why(int)", "int back()", "int image()",
        "int undo()", "int count(int)"};
    private static final String[] RULED_OUT = {
        "->", "::", "\\bimport\\b", "\\bpackage\\b", "Exact\\b", "\\bsynchronized\\b", "\\bassert\\b", "\\bfinally\\b",
        "\\bcatch\\b", "static\\s*\\{", "\\bvar\\b", "\\bThread\\b", "nanoTime", "currentTimeMillis", "\\bRandom\\b",
        "System\\.(?!arraycopy)", "\\bgetClass\\b", "\\bObject\\b", "[^\\x00-\\x7f]"};

    public static void main(String[] args) throws IOException {
        publicFace();
        membersAreHidden();
        classesInside();
        source();
        due.end();
    }

    private static void same(String what, Set<String> got, Set<String> want) {
        due.is(what + ": " + got + ", due: " + want, got.equals(want) ? 1 : 0, 1);
    }

    private static void publicFace() {
        Set<String> got = new TreeSet<>();
        for (Method method : ForcedRings.class.getDeclaredMethods()) {
            if (Modifier.isPublic(method.getModifiers())) {
                StringBuilder parts = new StringBuilder();
                for (Class<?> part : method.getParameterTypes()) {
                    parts.append(parts.length() == 0 ? "" : ",").append(part);
                }
                got.add(method.getReturnType() + " " + method.getName() + "(" + parts + ")");
            }
        }
        same("methods", got, new TreeSet<>(Arrays.asList(FACE)));
        due.is("public and final", ForcedRings.class.getModifiers(), Modifier.PUBLIC | Modifier.FINAL);
        Constructor<?>[] makers = ForcedRings.class.getDeclaredConstructors();
        due.is("constructors", makers.length, 1);
        due.is("public one", makers[0].getModifiers(), Modifier.PUBLIC);
        Set<String> constants = new TreeSet<>();
        for (Field field : ForcedRings.class.getDeclaredFields()) {
            if (Modifier.isPublic(field.getModifiers())) {
                constants.add(field.getType() + " " + field.getName());
            }
        }
        same("constants", constants, new TreeSet<>(Arrays.asList("int NONE", "int BAD", "int STATE", "int FULL", "long NO")));
    }

    private static void membersAreHidden() {
        int mask = Modifier.PUBLIC | Modifier.PRIVATE;
        for (Field field : ForcedRings.class.getDeclaredFields()) {
            due.is("hidden: " + field.getName(), Integer.bitCount(field.getModifiers() & mask), 1);
        }
        for (Method method : ForcedRings.class.getDeclaredMethods()) {
            due.is("hidden: " + method.getName(), Integer.bitCount(method.getModifiers() & mask), 1);
        }
    }

    private static void classesInside() {
        Set<String> names = new TreeSet<>();
        for (Method method : ForcedRings.class.getDeclaredMethods()) {
            due.is("a name just once: " + method.getName(), names.add(method.getName()) ? 1 : 0, 1);
        }
        Class<?>[] inside = ForcedRings.class.getDeclaredClasses();
        due.is("twelve classes at most", inside.length < 12 ? 1 : 0, 1);
        for (Class<?> each : inside) {
            due.is("static: " + each, Modifier.isStatic(each.getModifiers()) ? 1 : 0, 1);
            for (Method method : each.getDeclaredMethods()) {
                due.is("no name of the face: " + method, names.contains(method.getName()) ? 1 : 0, 0);
            }
        }
    }

    private static void source() throws IOException {
        Path file = Path.of("src", "main", "java", "ForcedRings.java");
        String source = new String(Files.readAllBytes(file), StandardCharsets.ISO_8859_1);
        for (String word : RULED_OUT) {
            due.is("ruled out: " + word, Pattern.compile(word).matcher(source).find() ? 1 : 0, 0);
        }
        onlyFieldsAreMade(source);
    }

    /** No call makes anything: all rows are made with the object, and used again. */
    private static void onlyFieldsAreMade(String source) {
        Pattern field = Pattern.compile("\\s+(private )?final [\\w\\[\\]]+ \\w+ = new .*;");
        for (String line : source.split("\n")) {
            if (Pattern.compile("\\bnew\\b").matcher(line).find()) {
                due.is("made with the object: " + line, field.matcher(line).matches() ? 1 : 0, 1);
            }
        }
    }
}
