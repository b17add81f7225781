import java.nio.charset.StandardCharsets;
import java.nio.file.Files;
import java.nio.file.Path;
import java.util.ArrayList;
import java.util.HashMap;
import java.util.LinkedHashMap;
import java.util.List;
import java.util.Map;
import java.util.Set;
import java.util.TreeMap;
import java.util.TreeSet;
import java.util.stream.Collectors;
import java.util.stream.Stream;

/**
 * Carries out the cases of src/test/sentences: "= promise 2 | n: the number of places, 6 at most" quotes a sentence of
 * the document, "- 7 is too large" begins a case of it on a new object, and the calls below it are read by Script.
 * Each sentence of the promises and of the description must have cases, and no case may quote what does not stand there.
 */
public final class SentencesTest {
    private static final Path DOC = Path.of("..", "shared", "DOC.md");
    private static final Path FOLDER = Path.of("src", "test", "sentences");
    private static final String STAGES = "stages.txt";
    /** Sentences that say nothing of a call. */
    private static final Set<String> SILENT = Set.of("Error codes.", "Grids.", "Kinds of rows.", "Values.",
            "What cells take.", "Regions.", "Acts.", "Text of a plan.",
            "The constructor and the methods follow, a promise each: the signature, then what it does.");

    /** For each section of the document its sentences. */
    private final Map<String, List<String>> document = new LinkedHashMap<>();
    private final Map<String, List<String>> stages = new HashMap<>();
    private final Map<String, Integer> casesOf = new TreeMap<>();
    private final Script script = new Script(stages, true);
    private String sentence = "";
    private String title = "";
    private int cases = 0;
    private int callsBeforeCase = 0;
    private int wrong = 0;

    public static void main(String[] args) throws Exception {
        SentencesTest test = new SentencesTest();
        test.readDocument();
        test.readStages();
        List<Path> files;
        try (Stream<Path> all = Files.list(FOLDER)) {
            files = all.filter(file -> file.toString().endsWith(".txt") && !file.endsWith(STAGES)).sorted()
                    .collect(Collectors.toList());
        }
        for (Path file : files) {
            test.runFile(file);
        }
        test.checkSentences();
        System.out.println(test.casesOf.size() + " sentences, " + test.cases + " cases, " + test.script.calls
                + " calls, " + test.wrong + " wrong");
        if (test.wrong != 0) {
            System.exit(1);
        }
    }

    private void readDocument() throws Exception {
        String text = Files.readString(DOC, StandardCharsets.UTF_8).replaceAll("(?s)```.*?```", "");
        for (String section : text.split("(?m)^## ")) {
            int end = section.indexOf('\n');
            String name = section.substring(0, end).replaceFirst(":.*", "").trim().toLowerCase();
            List<String> sentences = new ArrayList<>();
            for (String paragraph : section.substring(end).split("\n\\s*\n|\n(?=- )")) {
                readParagraph(paragraph, sentences);
            }
            document.put(name, sentences);
        }
    }

    private static void readParagraph(String paragraph, List<String> sentences) {
        String text = paragraph.trim().replaceAll("\\s+", " ");
        boolean isSignature = text.matches("`[^`]*`");
        boolean isHeading = text.startsWith("----");
        boolean isExample = text.matches("1\\. .*");
        if (text.isEmpty() || isSignature || isHeading || isExample) {
            return;
        }
        text = text.replace("`", "");
        if (text.startsWith("- ")) {
            sentences.add(text.substring(2));
            return;
        }
        for (String one : text.split("(?<=\\.|\\.\\)) ")) {
            if (!SILENT.contains(one)) {
                sentences.add(one);
            }
        }
    }

    private void readStages() throws Exception {
        List<String> lines = new ArrayList<>();
        for (String line : Files.readAllLines(FOLDER.resolve(STAGES), StandardCharsets.UTF_8)) {
            if (line.startsWith("= stage ")) {
                lines = new ArrayList<>();
                stages.put(line.substring("= stage ".length()), lines);
            } else if (!line.isBlank() && !line.startsWith("#")) {
                lines.add(line);
            }
        }
    }

    private void runFile(Path file) throws Exception {
        sentence = "";
        title = "";
        int number = 0;
        for (String line : Files.readAllLines(file, StandardCharsets.UTF_8)) {
            number++;
            String where = file.getFileName() + ":" + number;
            if (line.startsWith("= ")) {
                checkCase(where);
                startSentence(where, line.substring(2));
            } else if (line.startsWith("- ")) {
                checkCase(where);
                startCase(where, line.substring(2));
            } else if (!line.isBlank()) {
                runLine(where, line);
            }
        }
        checkCase(file.getFileName() + ", its end");
    }

    private void startSentence(String where, String heading) {
        String[] parts = heading.split(" \\| ", 2);
        if (parts.length < 2 || !document.getOrDefault(parts[0], List.of()).contains(parts[1])) {
            complain(where, "the document does not say this: " + heading);
        }
        if (casesOf.containsKey(heading)) {
            complain(where, "a second time: " + heading);
        }
        sentence = heading;
        title = "";
        casesOf.put(sentence, 0);
    }

    private void startCase(String where, String name) {
        if (sentence.isEmpty()) {
            complain(where, "a case without a sentence: " + name);
        }
        title = name;
        callsBeforeCase = script.calls;
        cases++;
        casesOf.merge(sentence, 1, Integer::sum);
        script.renew();
    }

    private void checkCase(String where) {
        if (!title.isEmpty() && script.calls == callsBeforeCase) {
            complain(where, sentence + ": no calls for the case before: " + title);
        }
    }

    private void runLine(String where, String line) throws Exception {
        if (title.isEmpty()) {
            complain(where, "calls without a case");
        }
        script.faults.clear();
        script.run(line);
        for (String fault : script.faults) {
            complain(where, sentence + ": " + title + ": " + fault);
        }
    }

    private void checkSentences() {
        Set<String> due = new TreeSet<>();
        document.forEach((section, sentences) -> {
            if (section.equals("description") || section.startsWith("promise ")) {
                sentences.forEach(one -> due.add(section + " | " + one));
            }
        });
        for (String one : due) {
            if (casesOf.getOrDefault(one, 0) == 0) {
                complain("../shared/DOC.md", "a sentence without a case: " + one);
            }
        }
        long promises = due.stream().map(one -> one.replaceFirst(" \\|.*", "")).filter(one -> one.startsWith("promise"))
                .distinct().count();
        if (promises != 55) {
            complain("../shared/DOC.md", promises + " promises found");
        }
    }

    private void complain(String where, String text) {
        wrong++;
        System.out.println(where + ": " + text);
    }
}
