import java.nio.charset.StandardCharsets;
import java.nio.file.Files;
import java.nio.file.Path;
import java.util.Map;

/** Carries out the examples at the end of the document's description, as they stand there, call by call. */
public final class ExamplesTest {
    private static final Path DOC = Path.of("..", "shared", "DOC.md");
    private static final String BEGIN = "Examples: Each of them begins with a new object";
    private static final String END = "The constructor and the methods follow";
    private static final int EXAMPLES = 3;

    private static int wrong = 0;

    public static void main(String[] args) throws Exception {
        String doc = Files.readString(DOC, StandardCharsets.UTF_8);
        int begin = doc.indexOf(BEGIN);
        int end = doc.indexOf(END, Math.max(begin, 0));
        if (begin < 0 || end < 0) {
            System.out.println("the document has no examples where they were");
            System.exit(1);
        }
        // What stands before the first number is the sentence that opens the list.
        String[] parts = doc.substring(begin, end).split("(?m)^\\d+\\. ");
        complain(parts.length != EXAMPLES + 1, parts.length - 1 + " examples, " + EXAMPLES + " are due");
        Script script = new Script(Map.of(), false);
        for (int number = 1; number < parts.length; number++) {
            runExample(script, number, parts[number].trim().replaceAll("\\s+", " "));
        }
        System.out.println(parts.length - 1 + " examples, " + script.calls + " calls, " + wrong + " wrong");
        if (wrong != 0) {
            System.exit(1);
        }
    }

    private static void runExample(Script script, int number, String example) throws Exception {
        String title = example.replaceFirst(":.*", "");
        int before = script.calls;
        script.renew();
        script.faults.clear();
        script.run(example.substring(Math.min(example.length(), title.length() + 1)).replaceFirst("\\.$", ""));
        for (String fault : script.faults) {
            complain(true, "example " + number + ", " + title + ": " + fault);
        }
        complain(script.calls == before, "example " + number + ", " + title + ": no calls");
        complain(!example.endsWith("."), "example " + number + ", " + title + ": more than calls");
    }

    private static void complain(boolean condition, String text) {
        if (condition) {
            wrong++;
            System.out.println(text);
        }
    }
}
