import java.io.IOException;
import java.io.OutputStream;
import java.nio.charset.StandardCharsets;
import java.nio.file.Files;
import java.nio.file.Path;
import java.util.ArrayList;
import java.util.Comparator;
import java.util.List;
import java.util.TreeSet;
import java.util.concurrent.TimeUnit;
import java.util.regex.Matcher;
import java.util.regex.Pattern;
import java.util.stream.Collectors;
import java.util.stream.IntStream;
import java.util.stream.Stream;
import javax.tools.ToolProvider;

/**
 * Breaks the class as breaks.txt says, one break at a time, and looks whether the test named there sees it.
 * Run by hand at the top of the project: java src/test/breaks/Breaks.java
 */
public final class Breaks {
    private static final Path CLASS = Path.of("src", "main", "java", "ForcedRings.java");
    private static final Path TESTS = Path.of("src", "test", "java");
    private static final Path LIST = Path.of("src", "test", "breaks", "breaks.txt");
    private static final Path OUT = Path.of("build", "breaks");

    private final String test;
    private final List<String> stands = new ArrayList<>();
    private final List<String> instead = new ArrayList<>();

    private Breaks(String test) {
        this.test = test;
    }

    public static void main(String[] args) throws IOException {
        List<Breaks> all = listed();
        clear(OUT);
        List<String> wrong = IntStream.range(0, all.size()).parallel()
                .mapToObj(i -> all.get(i).outcome(OUT.resolve("" + i)))
                .filter(outcome -> !outcome.isEmpty()).collect(Collectors.toCollection(ArrayList::new));
        wrong.addAll(testsWithoutBreak(all));
        wrong.forEach(System.out::println);
        System.out.println(all.size() + " breaks, " + wrong.size() + " complaints");
        System.exit(wrong.isEmpty() ? 0 : 1);
    }

    private static List<Breaks> listed() throws IOException {
        List<Breaks> all = new ArrayList<>();
        for (String line : Files.readAllLines(LIST)) {
            if (line.startsWith("== ")) {
                all.add(new Breaks(line.substring(3).trim()));
            } else if (line.startsWith("-")) {
                all.get(all.size() - 1).stands.add(line.substring(1).trim());
            } else if (line.startsWith("+")) {
                all.get(all.size() - 1).instead.add(line.substring(1).trim());
            }
        }
        return all;
    }

    /** Tests that say what they hold, but are not in the list. */
    private static List<String> testsWithoutBreak(List<Breaks> all) throws IOException {
        TreeSet<String> without = new TreeSet<>();
        for (Path file : sources()) {
            String name = file.getFileName().toString().replace(".java", "");
            Matcher test = Pattern.compile("@Says\\([^\n]*\\)\n +static void (\\w+)").matcher(Files.readString(file));
            while (test.find()) {
                without.add(name + "." + test.group(1));
            }
        }
        all.forEach(each -> without.remove(each.test));
        return without.stream().map(name -> name + " has no break").collect(Collectors.toList());
    }

    private static List<Path> sources() throws IOException {
        try (Stream<Path> files = Files.list(TESTS)) {
            return files.filter(file -> file.toString().endsWith(".java")).collect(Collectors.toList());
        }
    }

    private static void clear(Path folder) throws IOException {
        if (Files.exists(folder)) {
            try (Stream<Path> files = Files.walk(folder)) {
                for (Path file : files.sorted(Comparator.reverseOrder()).collect(Collectors.toList())) {
                    Files.delete(file);
                }
            }
        }
    }

    /** Empty, if the test saw the break. */
    private String outcome(Path folder) {
        try {
            String source = broken(Files.readString(CLASS));
            if (source == null) {
                return test + ": this doesn't stand in the class just once: " + stands;
            }
            Files.createDirectories(folder);
            Path file = Files.writeString(folder.resolve("ForcedRings.java"), source);
            if (!compiles(folder, file)) {
                return test + ": does not compile: " + instead;
            }
            return outcomeOfRun(folder);
        } catch (IOException | InterruptedException stopped) {
            return test + ": " + stopped;
        }
    }

    private String broken(String source) {
        String text = source;
        for (int i = 0; i < stands.size(); i++) {
            Matcher place = Pattern.compile(words(stands.get(i))).matcher(text);
            if (!place.find()) {
                return null;
            }
            String changed = text.substring(0, place.start()) + instead.get(i) + text.substring(place.end());
            if (place.find()) {
                return null;
            }
            text = changed;
        }
        return text;
    }

    private static String words(String text) {
        return Stream.of(text.split(" +")).map(Pattern::quote).collect(Collectors.joining("\\s+"));
    }

    private static boolean compiles(Path folder, Path file) throws IOException {
        List<String> words = new ArrayList<>(List.of("-nowarn", "-d", folder.toString(), file.toString()));
        sources().forEach(source -> words.add(source.toString()));
        OutputStream nowhere = OutputStream.nullOutputStream();
        return ToolProvider.getSystemJavaCompiler().run(null, nowhere, nowhere, words.toArray(new String[0])) == 0;
    }

    private String outcomeOfRun(Path folder) throws IOException, InterruptedException {
        String[] names = test.split("\\.");
        Path told = folder.resolve("told.txt");
        Process run = new ProcessBuilder("java", "-cp", folder.toString(), names[0])
                .redirectErrorStream(true).redirectOutput(told.toFile()).start();
        if (!run.waitFor(60, TimeUnit.SECONDS)) {
            run.destroyForcibly();
            return test + " doesn't end where " + stands + " become " + instead;
        }
        String text = new String(Files.readAllBytes(told), StandardCharsets.UTF_8);
        return text.contains(", " + names[1] + ", ") ? "" : test + " doesn't see " + stands + " become " + instead;
    }
}
