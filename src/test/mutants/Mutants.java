import java.io.IOException;
import java.io.OutputStream;
import java.io.PrintStream;
import java.net.URL;
import java.net.URLClassLoader;
import java.nio.file.Files;
import java.nio.file.Path;
import java.util.ArrayList;
import java.util.HashMap;
import java.util.HashSet;
import java.util.List;
import java.util.Map;
import java.util.Set;
import java.util.concurrent.ExecutionException;
import java.util.concurrent.ExecutorService;
import java.util.concurrent.Executors;
import java.util.concurrent.Future;
import java.util.concurrent.TimeUnit;
import java.util.concurrent.TimeoutException;
import java.util.regex.Matcher;
import java.util.regex.Pattern;
import javax.tools.JavaCompiler;
import javax.tools.ToolProvider;

/**
 * Breaks the program as mutants.txt tells, one change at a time, and looks whether that test of BoundaryTest fails
 * which is of the sentence that is broken.
 */
public final class Mutants {
    private static final Path PROGRAM = Path.of("src/main/java/HexPond.java");
    private static final PrintStream OUT = System.out;

    private record Change(String old, String instead) {
    }

    private record Mutant(String sentence, List<Change> changes, int line) {
    }

    /** The classes of the tests, and a room for the programs that are built. */
    private final Path tests;
    private final Path room;
    private final String program;
    private int passed;

    private Mutants(Path tests, Path room) throws IOException {
        this.tests = tests;
        this.room = room;
        program = Files.readString(PROGRAM);
    }

    public static void main(String[] args) throws Exception {
        Mutants run = new Mutants(Path.of(args[0]), Path.of(args[1]));
        List<Mutant> mutants = read(Path.of("src/test/mutants/mutants.txt"));
        System.setOut(new PrintStream(OutputStream.nullOutputStream()));
        ExecutorService threads = Executors.newFixedThreadPool(8, task -> {
            Thread thread = new Thread(task);
            thread.setDaemon(true);
            return thread;
        });
        Map<Mutant, Future<String>> answers = new HashMap<>();
        for (Mutant mutant : mutants) {
            answers.put(mutant, threads.submit(() -> run.fault(mutant)));
        }
        for (Mutant mutant : mutants) {
            run.tell(mutant, answers.get(mutant));
        }
        OUT.println(mutants.size() + " mutants, " + run.passed + " not found out");
        System.exit(run.passed == 0 ? 0 : 1);
    }

    private static List<Mutant> read(Path file) throws IOException {
        List<Mutant> mutants = new ArrayList<>();
        List<String> lines = Files.readAllLines(file);
        String sentence = "";
        for (int i = 0; i < lines.size(); i++) {
            String line = lines.get(i);
            String next = i + 1 < lines.size() ? lines.get(i + 1) : "";
            if (line.startsWith("= ")) {
                sentence = line.substring(2);
            } else if (line.startsWith("- ") && next.startsWith("+")) {
                List<Change> changes = new ArrayList<>();
                changes.add(new Change(line.substring(2), next.substring(1)));
                mutants.add(new Mutant(sentence, changes, i + 1));
            } else if (line.startsWith("& ") && next.startsWith("&+")) {
                mutants.get(mutants.size() - 1).changes().add(new Change(line.substring(2), next.substring(2)));
            }
        }
        return mutants;
    }

    private void tell(Mutant mutant, Future<String> answer) throws InterruptedException {
        String fault;
        try {
            fault = answer.get(300, TimeUnit.SECONDS);
        } catch (TimeoutException e) {
            fault = "does not come to its end";
        } catch (ExecutionException e) {
            fault = "threw " + e.getCause();
        }
        if (!fault.isEmpty()) {
            passed++;
            OUT.println("mutants.txt:" + mutant.line() + ": " + fault + "\n    = " + mutant.sentence() + "\n    + "
                    + mutant.changes().get(0).instead().trim());
        }
    }

    /** Why the mutant is not found out; empty if it is. */
    private String fault(Mutant mutant) throws Exception {
        String changed = program;
        for (Change change : mutant.changes()) {
            Matcher matcher = Pattern.compile(pattern(change.old())).matcher(changed);
            if (!matcher.find()) {
                return "nothing is like this in the program: " + change.old();
            }
            changed = changed.substring(0, matcher.start()) + change.instead() + changed.substring(matcher.end());
            if (matcher.find()) {
                return "the program has this more than once: " + change.old();
            }
        }
        Path classes = Files.createDirectories(room.resolve("mutant" + mutant.line()));
        Path source = classes.resolve("HexPond.java");
        Files.writeString(source, changed);
        JavaCompiler compiler = ToolProvider.getSystemJavaCompiler();
        if (compiler.run(null, OutputStream.nullOutputStream(), OutputStream.nullOutputStream(), "--release", "17",
                "-d", classes.toString(), source.toString()) != 0) {
            return "does not compile";
        }
        URL[] places = {classes.toUri().toURL(), tests.toUri().toURL()};
        try (URLClassLoader loader = new URLClassLoader(places, ClassLoader.getPlatformClassLoader())) {
            List<?> wrong = (List<?>) loader.loadClass("BoundaryTest").getMethod("wrongOnes").invoke(null);
            Set<Object> all = new HashSet<>(wrong);
            return all.contains(mutant.sentence()) ? "" : "the test passes (" + wrong.size() + " others fail)";
        }
    }

    private static String pattern(String text) {
        StringBuilder pattern = new StringBuilder();
        for (String word : text.trim().split("\\s+")) {
            pattern.append(pattern.length() == 0 ? "" : "\\s+").append(Pattern.quote(word));
        }
        return pattern.toString();
    }
}
