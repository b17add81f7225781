import java.nio.charset.StandardCharsets;
import java.nio.file.Files;
import java.nio.file.Path;
import java.util.HashMap;
import java.util.List;
import java.util.Map;
import java.util.Set;
import java.util.TreeSet;
import java.util.regex.Matcher;
import java.util.regex.Pattern;
import java.util.stream.Collectors;
import java.util.stream.Stream;

/**
 * Carries out the runs of src/test/runs. A paragraph is a run on a new object, written as Script reads it.
 * "# promise 2: grid" says to which promise the runs below it belong.
 */
public final class RunsTest {
    private static final Path RUNS = Path.of("src", "test", "runs");
    private static final int PROMISES = 55;
    private static final Pattern PROMISE = Pattern.compile("# promise (\\d+): (\\w+)");

    private final Script script = new Script(Map.of(), false);
    private final Map<Integer, String> promised = new HashMap<>();
    private final Set<Integer> called = new TreeSet<>();
    private int promise = 0;
    private int wrong = 0;

    public static void main(String[] args) throws Exception {
        RunsTest test = new RunsTest();
        List<Path> files;
        try (Stream<Path> all = Files.list(RUNS)) {
            files = all.filter(file -> file.toString().endsWith(".txt")).sorted().collect(Collectors.toList());
        }
        for (Path file : files) {
            test.runFile(file);
        }
        test.checkPromises();
        System.out.println(test.script.calls + " calls, " + test.wrong + " wrong");
        if (test.wrong != 0) {
            System.exit(1);
        }
    }

    private void runFile(Path file) throws Exception {
        promise = 0;
        script.renew();
        int number = 0;
        for (String line : Files.readAllLines(file, StandardCharsets.UTF_8)) {
            number++;
            if (line.isBlank()) {
                script.renew();
            } else if (line.startsWith("#")) {
                startPromise(line);
            } else {
                runLine(file.getFileName() + ":" + number, line);
            }
        }
    }

    private void startPromise(String line) {
        Matcher heading = PROMISE.matcher(line);
        if (heading.matches()) {
            promise = Integer.parseInt(heading.group(1));
            promised.put(promise, heading.group(2));
        }
    }

    private void runLine(String where, String line) throws Exception {
        script.methods.clear();
        script.faults.clear();
        script.run(line);
        if (script.methods.contains(promised.get(promise))) {
            called.add(promise);
        }
        for (String fault : script.faults) {
            complain(where + ": " + fault);
        }
    }

    private void checkPromises() {
        called.add(1); // the constructor, which every run calls
        for (int number = 1; number <= PROMISES; number++) {
            if (!called.contains(number) || !promised.containsKey(number)) {
                complain("promise " + number + " has no run that calls its method");
            }
        }
    }

    private void complain(String text) {
        wrong++;
        System.out.println(text);
    }
}
