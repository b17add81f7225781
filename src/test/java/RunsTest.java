import java.lang.reflect.Method;
import java.nio.charset.StandardCharsets;
import java.nio.file.Files;
import java.nio.file.Path;
import java.util.ArrayList;
import java.util.HashMap;
import java.util.List;
import java.util.Map;
import java.util.Set;
import java.util.TreeSet;
import java.util.regex.Matcher;
import java.util.regex.Pattern;
import java.util.stream.Collectors;
import java.util.stream.Stream;

/**
 * Carries out the runs of src/test/runs. A paragraph is a run on a new object; its calls stand as the document writes
 * them, grid(0, 3) = 3; and plan "flip 0 0;" = 1 stands for clear(), a type() for each character, and plan().
 * "# promise 2: grid" says to which promise the runs below it belong.
 */
public final class RunsTest {
    private static final Path RUNS = Path.of("src", "test", "runs");
    private static final int PROMISES = 55;
    private static final Pattern CALL = Pattern.compile(
            "\\s*(?:(\\w+)\\(([^)]*)\\)|plan \"([^\"]*)\")\\s*=\\s*(-?\\w+)\\s*(?:;|$)");
    private static final Pattern PROMISE = Pattern.compile("# promise (\\d+): (\\w+)");

    private final Map<String, Method> methods = new HashMap<>();
    private final Map<Integer, String> promised = new HashMap<>();
    private final Set<Integer> called = new TreeSet<>();
    private int promise = 0;
    private int calls = 0;
    private int wrong = 0;

    public static void main(String[] args) throws Exception {
        RunsTest test = new RunsTest();
        for (Method method : KindGrids.class.getDeclaredMethods()) {
            test.methods.put(method.getName(), method);
        }
        List<Path> files;
        try (Stream<Path> all = Files.list(RUNS)) {
            files = all.filter(file -> file.toString().endsWith(".txt")).sorted().collect(Collectors.toList());
        }
        for (Path file : files) {
            test.runFile(file);
        }
        test.checkPromises();
        System.out.println(test.calls + " calls, " + test.wrong + " wrong");
        if (test.wrong != 0) {
            System.exit(1);
        }
    }

    private void runFile(Path file) throws Exception {
        promise = 0;
        KindGrids x = null;
        int number = 0;
        for (String line : Files.readAllLines(file, StandardCharsets.UTF_8)) {
            number++;
            String where = file.getFileName() + ":" + number;
            if (line.isBlank()) {
                x = null;
            } else if (line.startsWith("#")) {
                startPromise(line);
            } else {
                x = x == null ? new KindGrids() : x;
                runLine(x, where, line);
            }
        }
    }

    private void startPromise(String line) {
        Matcher heading = PROMISE.matcher(line);
        if (heading.matches()) {
            promise = Integer.parseInt(heading.group(1));
            promised.put(promise, heading.group(2));
        }
    }

    private void runLine(KindGrids x, String where, String line) throws Exception {
        Matcher call = CALL.matcher(line);
        int at = 0;
        while (at < line.length()) {
            if (!call.find(at) || call.start() != at) {
                complain(where + ": not a call: " + line.substring(at));
                return;
            }
            long got = call.group(3) == null ? answer(x, call.group(1), call.group(2)) : plan(x, call.group(3));
            long want = due(call.group(4));
            calls++;
            if (got != want) {
                complain(where + ": " + call.group().trim() + " answered " + got);
            }
            at = call.end();
        }
    }

    private long answer(KindGrids x, String name, String list) throws Exception {
        Method method = methods.get(name);
        List<Object> arguments = new ArrayList<>();
        String[] words = list.isBlank() ? new String[0] : list.split(",");
        for (int k = 0; k < words.length; k++) {
            String word = words[k].trim();
            long v = due(word.endsWith("L") ? word.substring(0, word.length() - 1) : word);
            if (method.getParameterTypes()[k] == long.class) {
                arguments.add(v);
            } else {
                arguments.add(Math.toIntExact(v));
            }
        }
        if (name.equals(promised.get(promise))) {
            called.add(promise);
        }
        return ((Number) method.invoke(x, arguments.toArray())).longValue();
    }

    private long plan(KindGrids x, String text) {
        x.clear();
        for (char letter : text.toCharArray()) {
            x.type(letter);
        }
        if ("plan".equals(promised.get(promise))) {
            called.add(promise);
        }
        return x.plan();
    }

    private static long due(String word) throws Exception {
        switch (word) {
            case "MAXINT":
                return Integer.MAX_VALUE;
            case "MININT":
                return Integer.MIN_VALUE;
            case "MAXLONG":
                return Long.MAX_VALUE;
            case "MINLONG":
                return Long.MIN_VALUE;
            default:
                return Character.isLetter(word.charAt(0)) ? KindGrids.class.getField(word).getInt(null)
                        : Long.parseLong(word);
        }
    }

    private void checkPromises() {
        called.add(1); // the constructor, which every run calls
        for (int number = 1; number <= PROMISES; number++) {
            if (!called.contains(number) || !promised.containsKey(number)) {
                complain("promise " + number + " has no run that calls its method");
            }
        }
    }

    private void complain(String text) {
        wrong++;
        System.out.println(text);
    }
}
