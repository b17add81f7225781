import java.lang.reflect.InvocationTargetException;
import java.lang.reflect.Method;
import java.util.ArrayList;
import java.util.Arrays;
import java.util.HashMap;
import java.util.List;
import java.util.Map;
import java.util.Set;
import java.util.regex.Matcher;
import java.util.regex.Pattern;

/**
 * Carries out lines of calls with the answers that are due, as the document writes them: grid(0, 3) = 3; told() = 0.
 * plan "flip 0 0;" = 1 stands for clear(), a type() for each character, and plan(); 6 x sees(0, 0) = ANY for six calls
 * with any answer; "new" makes a new object; "use mixed" carries out the lines of a stage.
 */
final class Script {
    private static final Pattern ITEM = Pattern.compile("\\s*(?:(new)|use (\\w+)|(?:(\\d+) x )?(\\w+)\\(([^)]*)\\)\\s*=\\s*"
            + "(-?\\w+)|plan \"([^\"]*)\"\\s*=\\s*(-?\\w+))\\s*(?:;|$)");
    /** The document promises nothing about an object after so many calls. */
    private static final int MOST_CALLS = 512;
    /** Stands for the answer of a call that threw; no call is due to answer so. */
    private static final long NO_ANSWER = Long.MIN_VALUE + 99;
    private static final int[] CODES = {-1, -2, -3, -4, -5, -6, -7, -8, -10};
    private static final Set<String> UNCOUNTED = Set.of("count", "kinds", "refusals");
    private static final Set<String> MAY_ANSWER_NONE = Set.of("find", "trail", "block", "lies", "next");
    private static final Map<String, Method> METHODS = new HashMap<>();

    static {
        for (Method method : KindGrids.class.getDeclaredMethods()) {
            METHODS.put(method.getName(), method);
        }
    }

    private final Map<String, List<String>> stages;
    private final boolean checksRefusals;
    private KindGrids x = new KindGrids();
    private int callsOfObject = 0;
    /** What can be seen of the object after the latest call, null if a later call may have changed it. */
    private long[] seen = null;

    int calls = 0;
    final List<String> faults = new ArrayList<>();
    final List<String> methods = new ArrayList<>();

    /** With checksRefusals, each call that must be refused must also change nothing but what the document says. */
    Script(Map<String, List<String>> stages, boolean checksRefusals) {
        this.stages = stages;
        this.checksRefusals = checksRefusals;
    }

    void renew() {
        x = new KindGrids();
        callsOfObject = 0;
        seen = null;
    }

    void run(String line) throws Exception {
        Matcher item = ITEM.matcher(line);
        int at = 0;
        while (at < line.length()) {
            if (!item.find(at) || item.start() != at) {
                faults.add("not a call: " + line.substring(at));
                return;
            }
            runItem(item);
            at = item.end();
        }
        if (callsOfObject > MOST_CALLS) {
            faults.add("more than " + MOST_CALLS + " calls with the checks");
        }
    }

    private void runItem(Matcher item) throws Exception {
        String text = item.group().trim();
        if (item.group(1) != null) {
            renew();
        } else if (item.group(2) != null) {
            useStage(item.group(2));
        } else if (item.group(3) != null) {
            for (int k = Integer.parseInt(item.group(3)); k > 0; k--) {
                compare(text, call(item.group(4), item.group(5)), item.group(6));
            }
        } else if (item.group(4) != null) {
            String name = item.group(4);
            watch(name, text, item.group(6), () -> call(name, item.group(5)));
        } else {
            type(item.group(7));
            watch("plan", text, item.group(8), () -> call("plan", ""));
        }
    }

    private void useStage(String name) throws Exception {
        if (!stages.containsKey(name)) {
            faults.add("no stage " + name);
            return;
        }
        for (String line : stages.get(name)) {
            run(line);
        }
    }

    private interface Call {
        long answer() throws Exception;
    }

    /** Carries out a call and checks, if it must be refused or answer NONE, that it changes nothing. */
    private void watch(String name, String text, String due, Call call) throws Exception {
        long want = due.equals("ANY") ? 0 : number(due);
        boolean refused = Arrays.stream(CODES).anyMatch(code -> code == want) && !name.equals("told")
                && !name.equals("first") && !name.equals("digest");
        boolean none = want == KindGrids.NONE && MAY_ANSWER_NONE.contains(name);
        if (!checksRefusals || !refused && !none) {
            compare(text, call.answer(), due);
            return;
        }
        long[] before = seen == null ? look() : seen;
        compare(text, call.answer(), due);
        long[] after = look();
        for (int k = 0; k < CODES.length; k++) {
            before[k] += refused && CODES[k] == want && !UNCOUNTED.contains(name) ? 1 : 0;
        }
        if (name.equals("plan") || want == KindGrids.KIND && (name.equals("cast") || name.equals("times"))) {
            before[CODES.length] = after[CODES.length];
        }
        if (!Arrays.equals(before, after)) {
            faults.add(text + " changed something: " + Arrays.toString(before) + " is due, but there is "
                    + Arrays.toString(after));
        }
        seen = after;
    }

    /** How often each code was returned, first(), and all else that can be seen. */
    private long[] look() {
        long[] all = new long[CODES.length + 7];
        for (int k = 0; k < CODES.length; k++) {
            all[k] = x.refusals(CODES[k]);
        }
        long[] rest = {x.first(), x.told(), x.passed(), x.digest(), x.left(), x.count(8), x.count(9)};
        System.arraycopy(rest, 0, all, CODES.length, rest.length);
        callsOfObject += all.length;
        return all;
    }

    private void compare(String text, long got, String due) throws Exception {
        calls++;
        if (!due.equals("ANY") && got != number(due)) {
            faults.add(text + " answered " + got);
        }
    }

    private long call(String name, String list) throws Exception {
        Method method = METHODS.get(name);
        String[] words = list.isBlank() ? new String[0] : list.split(",");
        Object[] arguments = new Object[words.length];
        for (int k = 0; k < words.length; k++) {
            String word = words[k].trim();
            long v = number(word.endsWith("L") ? word.substring(0, word.length() - 1) : word);
            if (method.getParameterTypes()[k] == long.class) {
                arguments[k] = v;
            } else {
                arguments[k] = Math.toIntExact(v);
            }
        }
        callsOfObject++;
        seen = null;
        methods.add(name);
        try {
            return ((Number) method.invoke(x, arguments)).longValue();
        } catch (InvocationTargetException e) {
            faults.add(name + "(" + list + ") threw " + e.getCause());
            return NO_ANSWER;
        }
    }

    private void type(String text) {
        x.clear();
        for (char letter : text.toCharArray()) {
            x.type(letter);
        }
        callsOfObject += 1 + text.length();
        seen = null;
    }

    private static long number(String word) throws Exception {
        switch (word) {
            case "MAXINT":
                return Integer.MAX_VALUE;
            case "MININT":
                return Integer.MIN_VALUE;
            case "MAXLONG":
                return Long.MAX_VALUE;
            case "MINLONG":
                return Long.MIN_VALUE;
            default:
                return Character.isLetter(word.charAt(0)) ? KindGrids.class.getField(word).getInt(null)
                        : Long.parseLong(word);
        }
    }
}
