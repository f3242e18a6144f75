import java.io.IOException;
import java.io.OutputStream;
import java.io.PrintStream;
import java.lang.reflect.InvocationTargetException;
import java.net.URL;
import java.net.URLClassLoader;
import java.nio.file.Files;
import java.nio.file.Path;
import java.util.ArrayList;
import java.util.List;
import java.util.Set;
import java.util.TreeSet;
import java.util.concurrent.ExecutionException;
import java.util.concurrent.ExecutorService;
import java.util.concurrent.Executors;
import java.util.concurrent.Future;
import java.util.stream.Stream;
import javax.tools.JavaCompiler;
import javax.tools.ToolProvider;

/**
 * Shows that the tests of the sentences bite: breaks KingTies as src/test/mutants.txt tells, one change at a time,
 * and tells each test that ought to fail then, and does not, and each test that no change is meant for.
 * The script .ci/mutants runs it.
 */
public final class Mutants {
    private static final Path CLASS = Path.of("src", "main", "java", "KingTies.java");
    private static final Path LIST = Path.of("src", "test", "mutants.txt");

    /** One change, and the tests that must fail behind it. */
    private static final class Mutant {
        final int line;
        final List<String> tests = new ArrayList<>();
        final List<String> before = new ArrayList<>();
        final List<String> after = new ArrayList<>();

        Mutant(int line) {
            this.line = line;
        }
    }

    private Mutants() {
    }

    public static void main(String[] args) throws Exception {
        PrintStream out = System.out;
        System.setOut(new PrintStream(OutputStream.nullOutputStream()));
        List<Mutant> mutants = read();
        Set<String> unmeant = new TreeSet<>(allTests());
        ExecutorService threads = Executors.newFixedThreadPool(Runtime.getRuntime().availableProcessors());
        List<Future<String>> results = new ArrayList<>();
        for (Mutant mutant : mutants) {
            unmeant.removeAll(mutant.tests);
            results.add(threads.submit(() -> tried(mutant)));
        }
        int bad = unmeant.size();
        for (Future<String> result : results) {
            String told = told(result);
            if (!told.isEmpty()) {
                bad++;
                out.println(told);
            }
        }
        threads.shutdown();
        for (String test : unmeant) {
            out.println("no change is meant for " + test);
        }
        out.println(mutants.size() + " changes, " + bad + " faults");
        System.exit(bad == 0 ? 0 : 1);
    }

    private static String told(Future<String> result) throws InterruptedException {
        try {
            return result.get();
        } catch (ExecutionException e) {
            return e.getCause().toString();
        }
    }

    private static List<Mutant> read() throws IOException {
        List<Mutant> mutants = new ArrayList<>();
        Mutant mutant = new Mutant(0);
        int number = 0;
        for (String line : Files.readAllLines(LIST)) {
            number++;
            if (line.startsWith("= ")) {
                mutant = new Mutant(number);
                mutant.tests.addAll(List.of(line.substring(2).trim().split(" +")));
                mutants.add(mutant);
            } else if (line.startsWith("- ")) {
                mutant.before.add(line.substring(2).strip());
            } else if (line.startsWith("+ ")) {
                mutant.after.add(line.substring(2).strip());
            }
        }
        return mutants;
    }

    private static Set<String> allTests() {
        Set<String> names = new TreeSet<>();
        for (Class<?> tests : SentencesTest.TESTS) {
            Sentences.of(tests).forEach(test -> names.add(test.getName()));
        }
        return names;
    }

    /** What is wrong with a change; nothing, if all its tests fail. */
    private static String tried(Mutant mutant) throws Exception {
        String source = String.join("\n", Files.readAllLines(CLASS).stream().map(String::strip).toList());
        String before = String.join("\n", mutant.before);
        int at = source.indexOf(before);
        if (before.isEmpty() || at < 0 || source.indexOf(before, at + 1) >= 0) {
            return "line " + mutant.line + ": its text does not stand there just once";
        }
        Path place = Files.createTempDirectory("mutant");
        try {
            String changed = source.replace(before, String.join("\n", mutant.after));
            return compiled(changed, place) ? survived(mutant, place) : "line " + mutant.line + ": does not compile";
        } finally {
            delete(place);
        }
    }

    private static boolean compiled(String source, Path place) throws IOException {
        Path file = place.resolve("KingTies.java");
        Files.writeString(file, source);
        JavaCompiler compiler = ToolProvider.getSystemJavaCompiler();
        return compiler.run(null, OutputStream.nullOutputStream(), OutputStream.nullOutputStream(),
            "-d", place.toString(), file.toString()) == 0;
    }

    private static void delete(Path place) throws IOException {
        try (Stream<Path> files = Files.list(place)) {
            for (Path file : files.toList()) {
                Files.delete(file);
            }
        }
        Files.delete(place);
    }

    private static String survived(Mutant mutant, Path place) throws Exception {
        Path tests = Path.of(Mutants.class.getProtectionDomain().getCodeSource().getLocation().toURI());
        // The changed class is found ahead of the true one, which lies with the tests.
        URL[] path = {place.toUri().toURL(), tests.toUri().toURL()};
        try (URLClassLoader loader = new URLClassLoader(path, ClassLoader.getPlatformClassLoader())) {
            Set<String> holding = new TreeSet<>(mutant.tests);
            Class<?> runner = loader.loadClass("Mutants$Holding");
            @SuppressWarnings("unchecked")
            Set<String> left = (Set<String>) call(runner, holding);
            return left.isEmpty() ? "" : "line " + mutant.line + ": no fault is seen by " + left;
        }
    }

    private static Object call(Class<?> runner, Set<String> names) throws Exception {
        try {
            return runner.getMethod("of", Set.class).invoke(null, names);
        } catch (InvocationTargetException e) {
            throw new IllegalStateException(e.getCause());
        }
    }

    /** Is loaded anew for each change, with all that it uses. */
    public static final class Holding {
        private Holding() {
        }

        /** Those of the tests that hold. */
        public static Set<String> of(Set<String> names) {
            Set<String> left = new TreeSet<>(names);
            for (Class<?> tests : SentencesTest.TESTS) {
                Sentences.of(tests).forEach(test -> {
                    if (names.contains(test.getName()) && !Sentences.holds(test)) {
                        left.remove(test.getName());
                    }
                });
            }
            return left;
        }
    }
}
