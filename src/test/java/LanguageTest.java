import java.lang.reflect.Constructor;
import java.lang.reflect.Executable;
import java.lang.reflect.Field;
import java.lang.reflect.Method;
import java.lang.reflect.Modifier;
import java.nio.charset.StandardCharsets;
import java.nio.file.Files;
import java.nio.file.Path;
import java.util.ArrayList;
import java.util.Arrays;
import java.util.List;
import java.util.Set;
import java.util.TreeSet;
import java.util.regex.Matcher;
import java.util.regex.Pattern;
import java.util.stream.Collectors;

/** Checks the face of the class against the document, and those rules of LANGUAGE.md that can be seen from outside. */
public final class LanguageTest {
    private static final Path SOURCE = Path.of("src", "main", "java", "KindGrids.java");
    private static final Path DOC = Path.of("..", "shared", "DOC.md");
    private static final int MOST_LINES = 60, MOST_PARAMETERS = 7, MOST_FIELDS = 20, MOST_CLASSES = 12;
    private static final List<String> FORBIDDEN = List.of("->", "::", "\\bthrow\\b", "\\bcatch\\b", "\\btry\\b",
            "\\bfinally\\b", "\\bsynchronized\\b", "\\bassert\\b", "Exact\\b", "\\bimport (?!java\\.util\\.Arrays;)",
            "\\bpackage\\b", "\\bstatic \\{", "\\bSystem\\.(?!arraycopy)", "\\bhashCode\\b", "\\btoString\\b", "NaN",
            "M(AX|IN)_VALUE",
            "\" \\+|\\+ \"");

    private static int wrong = 0;

    public static void main(String[] args) throws Exception {
        checkFace();
        checkClasses();
        checkSource();
        System.out.println(wrong == 0 ? "the face and the rules are kept" : wrong + " breaches");
        if (wrong != 0) {
            System.exit(1);
        }
    }

    private static void complain(boolean condition, String text) {
        if (condition) {
            wrong++;
            System.out.println(text);
        }
    }

    private static void checkFace() throws Exception {
        String doc = Files.readString(DOC, StandardCharsets.UTF_8);
        String face = doc.substring(doc.indexOf("```java"), doc.indexOf("```", doc.indexOf("```java") + 3));
        Set<String> promised = new TreeSet<>();
        Matcher method = Pattern.compile("public (int|long) (\\w+)\\(([^)]*)\\);").matcher(face);
        while (method.find()) {
            promised.add(method.group(1) + " " + method.group(2) + "("
                    + method.group(3).replaceAll(" \\w+(,|$)", "$1").replace(" ", "") + ")");
        }
        Set<String> found = new TreeSet<>();
        for (Method m : KindGrids.class.getDeclaredMethods()) {
            if (!Modifier.isPrivate(m.getModifiers())) {
                complain(!Modifier.isPublic(m.getModifiers()) || Modifier.isStatic(m.getModifiers()),
                        m + " is not of the face");
                String types = Arrays.stream(m.getParameterTypes()).map(Class::getName)
                        .collect(Collectors.joining(","));
                found.add(m.getReturnType() + " " + m.getName() + "(" + types + ")");
            }
        }
        complain(promised.size() != 54, "the document's face has " + promised.size() + " methods");
        complain(!found.equals(promised), "methods: " + found + ", promised are " + promised);
        Constructor<?>[] made = KindGrids.class.getDeclaredConstructors();
        complain(made.length != 1 || !Modifier.isPublic(made[0].getModifiers()) || made[0].getParameterCount() != 0,
                "the constructor is not the promised one");
        complain(!Modifier.isFinal(KindGrids.class.getModifiers()), "the class is not final");
        checkConstants(face);
    }

    private static void checkConstants(String face) throws Exception {
        Set<String> promised = new TreeSet<>();
        Matcher constant = Pattern.compile("([A-Z]+) = (-\\d+)").matcher(face);
        while (constant.find()) {
            promised.add(constant.group(1) + " = " + constant.group(2));
        }
        Set<String> found = new TreeSet<>();
        for (Field field : KindGrids.class.getDeclaredFields()) {
            if (!Modifier.isPrivate(field.getModifiers())) {
                found.add(field.getName() + " = " + field.getInt(null));
            }
        }
        complain(!found.equals(promised), "constants: " + found + ", promised are " + promised);
    }

    private static void checkClasses() {
        Set<String> face = Arrays.stream(KindGrids.class.getDeclaredMethods())
                .filter(m -> Modifier.isPublic(m.getModifiers())).map(Method::getName).collect(Collectors.toSet());
        List<Class<?>> classes = new ArrayList<>(List.of(KindGrids.class));
        classes.addAll(Arrays.asList(KindGrids.class.getDeclaredClasses()));
        complain(classes.size() > MOST_CLASSES, classes.size() + " classes");
        for (Class<?> one : classes) {
            boolean inside = one != KindGrids.class;
            complain(inside && !Modifier.isStatic(one.getModifiers()), one + " is not static");
            complain(inside && !Modifier.isPrivate(one.getModifiers()), one + " is not private");
            List<Executable> all = new ArrayList<>(Arrays.asList(one.getDeclaredMethods()));
            for (Executable method : all) {
                complain(method.getParameterCount() > MOST_PARAMETERS, method + " has too many parameters");
                complain(face.contains(method.getName()) && (inside || Modifier.isPrivate(method.getModifiers())),
                        method + " bears the name of a method of the face");
            }
            int fields = 0;
            for (Field field : one.getDeclaredFields()) {
                boolean isStatic = Modifier.isStatic(field.getModifiers());
                fields += isStatic ? 0 : 1;
                complain(isStatic && !Modifier.isFinal(field.getModifiers()), field + " is static, but not final");
            }
            complain(fields > MOST_FIELDS, one + " has " + fields + " fields");
        }
    }

    private static void checkSource() throws Exception {
        String source = Files.readString(SOURCE, StandardCharsets.ISO_8859_1);
        complain(source.chars().anyMatch(c -> c > 126 || c < 32 && c != '\n'), "the source has odd signs");
        for (String pattern : FORBIDDEN) {
            Matcher matcher = Pattern.compile(pattern).matcher(source);
            while (matcher.find()) {
                complain(true, "line " + source.substring(0, matcher.start()).split("\n", -1).length + ": " + pattern);
            }
        }
        int begin = 0;
        String[] lines = source.split("\n");
        for (int k = 0; k < lines.length; k++) {
            if (lines[k].matches(" {4}( {4})?\\w.*\\) \\{")) {
                begin = k;
            } else if (lines[k].matches(" {4}( {4})?\\}")) {
                complain(k + 1 - begin > MOST_LINES && !lines[begin].contains("class"),
                        "line " + (begin + 1) + ": a method of " + (k + 1 - begin) + " lines");
                begin = k + 1;
            }
        }
    }
}
