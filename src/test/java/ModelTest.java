import java.lang.reflect.Method;
import java.util.ArrayList;
import java.util.Arrays;
import java.util.HashMap;
import java.util.List;
import java.util.Map;
import java.util.Random;
import java.util.TreeMap;

/**
 * Compares KindGrids with ReflectModel over many runs of chosen calls. The numbers come from Random with fixed seeds,
 * so that every time the same runs are made.
 */
public final class ModelTest {
    private static final int RUNS = 4000;
    /** With the calls that compare the state after each call a run stays below 512 calls. */
    private static final int CALLS = 500;

    /** For each method what its arguments are: a letter for each, see choose(). */
    private static final String[] METHODS = {"grid gN", "drop g", "row gpkn", "row gpkn", "row gpkn", "thing gpt",
        "share gpgp", "share gpgp", "swap gpgp", "holds gp", "same gpgp", "size gp", "read gpia", "read gpia",
        "write gpiPv", "write gpiPv", "put gpisv", "put gpisv", "put gpisv", "find gpsv", "alike gpgp", "cut gpinp",
        "cast gpk", "cast gpk", "pour gpgp", "join gpp", "flip gp", "roll gpV", "order gp", "add gpPV", "add gpPV",
        "above gpAvp", "pick gpp", "flat ggp", "deal gpwg", "turn gg", "times ggg", "times ggg", "fold gyxof",
        "fold gyxof", "fold gyxof", "dot gpgpf", "dot gpgpf", "trail g", "trail g", "patch gpi", "patches g",
        "paint gpisv", "paint gpisv", "block g", "block g", "lies ggx", "lies ggx", "type l", "clear ", "plan ",
        "least kk", "fits ck", "sees cb", "forget ", "left ", "next ", "keep m", "back m", "told ", "first ",
        "passed ", "refusals e", "count u", "kinds k", "digest "};
    private static final String[] STEPS = {"row gpkn", "drop g", "swap gpgp", "share gpgp", "cut gpinp", "cast gpk",
        "join gpp", "flip gp", "roll gpn", "order gp", "add gpPn", "flat ggp", "deal gpwg", "turn gg"};
    private static final long[] LONGS = {0, 1, -1, 2, 3, 8, 16, 24, -8, 127, 128, 255, 256, 65535, 65536, 32768,
        16777217, 134217728, Integer.MAX_VALUE, Integer.MIN_VALUE, 1L << 53, (1L << 53) + 1, 1L << 56, (1L << 56) + 8,
        18014399583223809L, 1L << 62, Long.MAX_VALUE, Long.MIN_VALUE};
    private static final int[] STRAYS = {-1, -2, 4, 6, 7, 9, 12, 13, 99, Integer.MAX_VALUE, Integer.MIN_VALUE};

    private final Map<String, Method> methods = new HashMap<>();
    private final Map<String, Integer> answers = new TreeMap<>();
    private KindGrids real;
    private ReflectModel model;
    private Random random;
    private List<String> log;
    private boolean differs;
    /** Lets a run use few kinds and values, so that cells are often alike and readable. */
    private boolean plainRun;

    public static void main(String[] args) throws Exception {
        ModelTest test = new ModelTest();
        for (Method method : KindGrids.class.getDeclaredMethods()) {
            test.methods.put(method.getName(), method);
        }
        int wrong = 0;
        for (int seed = 0; seed < RUNS && wrong < 5; seed++) {
            wrong += test.run(seed) ? 0 : 1;
        }
        if (args.length > 0) {
            test.answers.forEach((call, times) -> System.out.println(call + ": " + times));
        }
        System.out.println(RUNS + " runs, " + wrong + " differ");
        if (wrong != 0) {
            System.exit(1);
        }
    }

    private boolean run(int seed) throws Exception {
        real = new KindGrids();
        model = new ReflectModel();
        random = new Random(seed);
        log = new ArrayList<>();
        differs = false;
        plainRun = seed % 3 != 0;
        for (int g = 0; g < 4; g++) {
            if (random.nextInt(3) > 0) {
                compare("grid", g, random.nextInt(7));
                for (int p = 0; model.grids[g] != null && p < model.grids[g].length; p++) {
                    compare("row", g, p, choose('k'), choose('n'));
                }
            }
        }
        while (log.size() < CALLS - 90 && !differs) {
            if (random.nextInt(12) == 0) {
                planRandomly();
            } else {
                String[] method = METHODS[random.nextInt(METHODS.length)].split(" ");
                compare(method[0], arguments(method.length > 1 ? method[1] : ""));
            }
            for (String check : new String[] {"told", "first", "passed", "digest"}) {
                compare(check);
            }
        }
        if (differs) {
            System.out.println("run " + seed + ": " + String.join("; ", log));
        }
        return !differs;
    }

    private void planRandomly() throws Exception {
        StringBuilder text = new StringBuilder();
        int steps = random.nextInt(5);
        for (int k = 0; k < steps; k++) {
            String[] step = STEPS[random.nextInt(STEPS.length)].split(" ");
            text.append(step[0]);
            for (long number : arguments(step[1])) {
                text.append(' ').append(Math.max(0, Math.min(number, 99)));
            }
            text.append(';').append(random.nextBoolean() ? " " : "");
        }
        if (random.nextInt(3) == 0 && text.length() > 0) {
            int at = random.nextInt(text.length());
            String[] odd = {"", " ", ";", "0", "a", "12", "flip", "\t"};
            text.replace(at, at + random.nextInt(2), odd[random.nextInt(odd.length)]);
        }
        compare("clear");
        for (int k = 0; k < Math.min(80, text.length()); k++) {
            compare("type", text.charAt(k));
        }
        compare("plan");
    }

    private long[] arguments(String letters) {
        long[] chosen = new long[letters.length()];
        long grid = 0;
        for (int k = 0; k < chosen.length; k++) {
            char letter = letters.charAt(k);
            boolean strays = random.nextInt(40) == 0 && letter != 'v';
            chosen[k] = strays ? STRAYS[random.nextInt(STRAYS.length)] : choose(letter);
            if (letter == 'g') {
                chosen[k] = random.nextInt(8) > 0 ? likelyGrid(chosen[k]) : chosen[k];
                grid = chosen[k];
            }
            if (letter == 'p' && random.nextInt(12) > 0) {
                chosen[k] = likelyPlace(grid, chosen[k]);
            }
        }
        return chosen;
    }

    /** A grid that is not missing and has places, if a few tries find one. */
    private long likelyGrid(long otherwise) {
        for (int tries = 0; tries < 6; tries++) {
            int g = random.nextInt(4);
            if (model.grids[g] != null && model.grids[g].length > 0) {
                return g;
            }
        }
        return otherwise;
    }

    /** A place that holds something, if a few tries find one. */
    private long likelyPlace(long grid, long otherwise) {
        Object[] held = grid >= 0 && grid < 4 ? model.grids[(int) grid] : null;
        for (int tries = 0; tries < 3 && held != null && held.length > 0; tries++) {
            int p = random.nextInt(held.length);
            if (held[p] != null) {
                return p;
            }
        }
        return otherwise;
    }

    private long choose(char letter) {
        switch (letter) {
            case 'g': return random.nextInt(10) > 0 ? random.nextInt(3) : 3;
            case 'N': return random.nextInt(7);
            case 'p': return random.nextInt(6);
            case 'k': return plainRun && random.nextInt(5) > 0 ? 1 + random.nextInt(4) : random.nextInt(12);
            case 'n': return random.nextInt(6) > 0 ? random.nextInt(6) : random.nextInt(13);
            case 't': return random.nextInt(3);
            case 'i': return random.nextInt(6) > 0 ? random.nextInt(4) : random.nextInt(12);
            case 'a': return random.nextInt(3) == 0 ? 8 : random.nextInt(9);
            case 'P': return plainRun && random.nextBoolean() ? 1 + random.nextInt(4) : random.nextInt(8);
            case 's': return plainRun && random.nextInt(3) > 0 ? 1 + random.nextInt(4) : random.nextInt(12);
            case 'v': return plainRun && random.nextInt(4) > 0 ? random.nextInt(3) : chooseLong();
            case 'V': return random.nextBoolean() ? random.nextInt(5) - 2 : (int) chooseLong();
            case 'A': return 4 + random.nextInt(4);
            case 'w': return 1 + random.nextInt(random.nextBoolean() ? 3 : 12);
            case 'y': return random.nextInt(4);
            case 'x': return random.nextBoolean() ? 0 : random.nextInt(8);
            case 'o': return random.nextInt(5);
            case 'f': return new int[] {4, 5, 7}[random.nextInt(3)];
            case 'l': return random.nextInt(256);
            case 'c': return random.nextInt(28);
            case 'b': case 'm': return random.nextInt(2);
            case 'e': return -random.nextInt(12);
            case 'u': return random.nextInt(10);
            default: throw new IllegalArgumentException("no such letter: " + letter);
        }
    }

    private long chooseLong() {
        return random.nextInt(8) == 0 ? random.nextLong() : LONGS[random.nextInt(LONGS.length)];
    }

    private void compare(String name, long... numbers) throws Exception {
        if (differs) {
            return;
        }
        Method method = methods.get(name);
        Object[] arguments = new Object[numbers.length];
        for (int k = 0; k < numbers.length; k++) {
            if (method.getParameterTypes()[k] == long.class) {
                arguments[k] = numbers[k];
            } else {
                arguments[k] = (int) numbers[k];
            }
        }
        long got = ((Number) method.invoke(real, arguments)).longValue();
        long want = model.call(name, numbers);
        log.add(name + Arrays.toString(numbers) + " = " + got);
        answers.merge(name + " " + (want > -11 && want < 0 ? want : 0), 1, Integer::sum);
        if (got != want) {
            differs = true;
            log.add("due is " + want);
        }
    }
}
