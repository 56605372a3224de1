import java.io.IOException;
import java.lang.reflect.InvocationTargetException;
import java.lang.reflect.Method;
import java.nio.charset.StandardCharsets;
import java.nio.file.Files;
import java.nio.file.Path;
import java.util.ArrayList;
import java.util.Comparator;
import java.util.List;

/** Runs the tests of a class that hold one sentence of the document each: one that names a boundary case. */
final class Edges {
    private static final Path DOCUMENT = Path.of("..", "shared", "DOC.md");

    private Edges() {
    }

    /** The tests of the class, which must have one at least for each promise from the first to the last. */
    static void run(Class<?> tests, int first, int last) {
        Due due = new Due(tests.getSimpleName());
        String document = document();
        List<Method> found = testsOf(tests);
        for (Method test : found) {
            runOne(test, new Edge(due, test), document);
        }
        for (int promise = first; promise <= last; promise++) {
            due.is("tests of promise " + promise, hasTestOf(promise, found) ? 1 : 0, 1);
        }
        due.end();
    }

    private static void runOne(Method test, Edge edge, String document) {
        boolean stands = document == null || document.contains(edge.words());
        edge.is("these words stand in the document", stands ? 1 : 0, 1);
        try {
            test.invoke(null, edge);
        } catch (InvocationTargetException thrown) {
            edge.is("the calls threw " + thrown.getCause(), 1, 0);
        } catch (IllegalAccessException hidden) {
            edge.is("the test can't be called: " + hidden, 1, 0);
        }
        edge.is("the test compares something", edge.compared() > 1 ? 1 : 0, 1);
    }

    private static List<Method> testsOf(Class<?> tests) {
        List<Method> found = new ArrayList<>();
        for (Method method : tests.getDeclaredMethods()) {
            if (method.isAnnotationPresent(Says.class)) {
                found.add(method);
            }
        }
        found.sort(Comparator.comparingInt(Edges::promiseOf).thenComparing(Method::getName));
        return found;
    }

    private static int promiseOf(Method test) {
        return test.getAnnotation(Says.class).promise();
    }

    private static boolean hasTestOf(int promise, List<Method> tests) {
        return tests.stream().anyMatch(test -> promiseOf(test) == promise);
    }

    /** The document on one line, with one blank between two words; null where it can't be had. */
    private static String document() {
        try {
            String text = new String(Files.readAllBytes(DOCUMENT), StandardCharsets.UTF_8);
            return text.replaceAll("\\s+", " ");
        } catch (IOException missing) {
            System.out.println("no words are compared with the document: it isn't at " + DOCUMENT);
            return null;
        }
    }
}
