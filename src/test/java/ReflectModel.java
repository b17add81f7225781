import java.lang.reflect.Array;
import java.util.ArrayList;
import java.util.Arrays;
import java.util.HashSet;
import java.util.IdentityHashMap;
import java.util.LinkedHashMap;
import java.util.List;
import java.util.Map;
import java.util.Objects;
import java.util.Set;
import java.util.TreeSet;

/**
 * The document once more, in another way: rows are real Java arrays, and java.lang.reflect.Array decides what they
 * take and as what they are read. ModelTest compares it with KindGrids.
 */
final class ReflectModel {
    static final int BAD = -1, VOID = -2, AFAR = -3, NOUGHT = -4, THING = -5, INDEX = -6, KIND = -7, SIZE = -8,
            NONE = -9, FULL = -10;

    static class Token {
        final int number;

        Token(int number) {
            this.number = number;
        }
    }

    static final class Seal extends Token {
        Seal(int number) {
            super(number);
        }
    }

    /** Thrown where the document wants an error code. */
    static final class Fault extends RuntimeException {
        private static final long serialVersionUID = 1;
        final int code;

        Fault(int code) {
            super(null, null, false, false);
            this.code = code;
        }
    }

    private static final Class<?>[] TYPES = {boolean.class, byte.class, char.class, short.class, int.class, long.class,
        float.class, double.class, Object.class, Integer.class, Token.class, String.class};
    private static final Class<?>[] BOXES = {Boolean.class, Byte.class, Character.class, Short.class, Integer.class,
        Long.class, Float.class, Double.class};
    private static final Token[] TOKENS = {new Token(0), new Token(1), new Token(2), new Token(3)};
    private static final Seal[] SEALS = {new Seal(0), new Seal(1), new Seal(2), new Seal(3)};
    private static final String[] NAMES = {"n0", "n1", "n2", "n3"};
    private static final String NAME_THING = "a thing";
    private static final Token TOKEN_THING = new Token(9);

    Object[][] grids = new Object[4][];
    final Object[][][] images = new Object[2][][];
    StringBuilder text = new StringBuilder();
    final List<int[]> seen = new ArrayList<>();
    final Map<Integer, Integer> refused = new LinkedHashMap<>();
    long told = 0;
    int first = NONE;
    int passed = 0;

    /** Calls a method by its name; all arguments as longs. */
    long call(String name, long[] a) {
        switch (name) {
            case "told":
                return told;
            case "first":
                return first;
            case "passed":
                return passed;
            case "digest":
                return digest();
            case "refusals":
                return Set.of(-1L, -2L, -3L, -4L, -5L, -6L, -7L, -8L, -10L).contains(a[0])
                        ? refused.getOrDefault((int) a[0], 0) : BAD;
            case "count":
                return count((int) a[0]);
            case "kinds":
                return a[0] < 0 || a[0] > 11 ? BAD : rowsOf().stream().filter(r -> kindOf(r) == a[0]).count();
            default:
                int answer;
                try {
                    answer = name.equals("plan") ? plan() : step(name, a);
                } catch (Fault fault) {
                    answer = fault.code;
                }
                if (answer < 0 && answer >= FULL && answer != NONE) {
                    refused.merge(answer, 1, Integer::sum);
                }
                return answer;
        }
    }

    private int step(String name, long[] l) {
        int[] a = new int[l.length];
        for (int k = 0; k < a.length; k++) {
            a[k] = (int) l[k];
        }
        long last = l.length == 0 ? 0 : l[l.length - 1];
        switch (name) {
            case "grid": return grid(a[0], a[1]);
            case "drop": return drop(a[0]);
            case "row": return row(a[0], a[1], a[2], a[3]);
            case "thing": return thing(a[0], a[1], a[2]);
            case "share": return share(a[0], a[1], a[2], a[3]);
            case "swap": return swap(a[0], a[1], a[2], a[3]);
            case "holds": checkGrids(a[0]); return content(placeOf(a[0], a[1])[a[1]]);
            case "same": checkGrids(a[0], a[2]); return rowOf(a[0], a[1]) == rowOf(a[2], a[3]) ? 1 : 0;
            case "size": checkGrids(a[0]); return Array.getLength(rowOf(a[0], a[1]));
            case "read": return read(a[0], a[1], a[2], a[3]);
            case "write": return write(a[0], a[1], a[2], a[3], last);
            case "put": return put(a[0], a[1], a[2], a[3], last);
            case "find": return find(a[0], a[1], a[2], last);
            case "alike": return alike(a[0], a[1], a[2], a[3]);
            case "cut": return cut(a[0], a[1], a[2], a[3], a[4]);
            case "cast": return cast(a[0], a[1], a[2]);
            case "pour": return pour(a[0], a[1], a[2], a[3]);
            case "join": return join(a[0], a[1], a[2]);
            case "flip": return permute(a[0], a[1], (i, n) -> n - 1 - i);
            case "roll": return permute(a[0], a[1], (i, n) -> (int) (((long) i + a[2]) % n + n) % n);
            case "order": return order(a[0], a[1]);
            case "add": return add(a[0], a[1], a[2], a[3]);
            case "above": return above(a[0], a[1], a[2], l[3], a[4]);
            case "pick": return pick(a[0], a[1], a[2]);
            case "flat": return flat(a[0], a[1], a[2]);
            case "deal": return deal(a[0], a[1], a[2], a[3]);
            case "turn": return turn(a[0], a[1]);
            case "times": return times(a[0], a[1], a[2]);
            case "fold": return fold(a[0], a[1], a[2], a[3], a[4]);
            case "dot": return dot(a[0], a[1], a[2], a[3], a[4]);
            case "trail": return trail(a[0]);
            case "patch": return patch(a[0], a[1], a[2]);
            case "patches": return patches(a[0]);
            case "paint": return paint(a[0], a[1], a[2], a[3], last);
            case "block": return block(a[0]);
            case "lies": return lies(a[0], a[1], a[2]);
            case "type": return type(a[0]);
            case "clear": { int n = text.length(); text.setLength(0); return n; }
            case "least": range(a[0], 0, 11); range(a[1], 0, 11); return least(List.of(a[0], a[1]));
            case "fits": range(a[0], 0, 27); range(a[1], 0, 11); return fits(a[0], a[1]) ? 1 : 0;
            case "sees": return sees(a[0], a[1]);
            case "forget": { int n = seen.size(); seen.clear(); return n; }
            case "left": return left().stream().mapToInt(k -> 1 << k).sum();
            case "next": return next();
            case "keep": range(a[0], 0, 1); images[a[0]] = copy(grids); return present();
            case "back":
                range(a[0], 0, 1);
                fail(images[a[0]] == null, VOID);
                grids = copy(images[a[0]]);
                return present();
            default: throw new IllegalArgumentException(name);
        }
    }

    // ---- helpers

    private static void fail(boolean condition, int code) {
        if (condition) {
            throw new Fault(code);
        }
    }

    private static void range(long x, long low, long high) {
        fail(x < low || x > high, BAD);
    }

    private static void checkGrids(int... numbers) {
        for (int g : numbers) {
            range(g, 0, 3);
        }
    }

    private Object[] gridOf(int g) {
        fail(grids[g] == null, VOID);
        return grids[g];
    }

    private Object[] placeOf(int g, int p) {
        Object[] grid = gridOf(g);
        fail(p < 0 || p >= grid.length, AFAR);
        return grid;
    }

    private Object rowOf(int g, int p) {
        Object held = placeOf(g, p)[p];
        fail(held == null, NOUGHT);
        fail(!held.getClass().isArray(), THING);
        return held;
    }

    private static boolean isRow(Object held) {
        return held != null && held.getClass().isArray();
    }

    private static int kindOf(Object row) {
        return Arrays.asList(TYPES).indexOf(row.getClass().getComponentType());
    }

    private static int content(Object held) {
        return held == null ? 14 : held instanceof String ? 12 : held instanceof Token ? 13 : kindOf(held);
    }

    private static int length(Object row) {
        return Array.getLength(row);
    }

    private static Object make(int sort, long v) {
        switch (sort) {
            case 0: return v % 2 != 0;
            case 1: return (byte) v;
            case 2: return (char) v;
            case 3: return (short) v;
            case 4: return (int) v;
            case 5: return v;
            case 6: return (float) v / 8.0f;
            case 7: return (double) v / 8.0;
            case 8: return TOKENS[(int) (v & 3)];
            case 9: return SEALS[(int) (v & 3)];
            case 10: return NAMES[(int) (v & 3)];
            default: return null;
        }
    }

    private static int sortOf(Object value) {
        if (value == null) {
            return 11;
        }
        if (value instanceof String) {
            return 10;
        }
        if (value instanceof Token) {
            return value instanceof Seal ? 9 : 8;
        }
        return Arrays.asList(BOXES).indexOf(value.getClass());
    }

    private static long code(Object value) {
        switch (sortOf(value)) {
            case 0: return (Boolean) value ? 1 : 0;
            case 2: return (Character) value;
            case 6: return (long) (8.0 * (Float) value);
            case 7: return (long) (8.0 * (Double) value);
            case 8: case 9: return ((Token) value).number;
            case 10: return ((String) value).charAt(1) - '0';
            case 11: return 0;
            default: return ((Number) value).longValue();
        }
    }

    private static Number number(Object value) {
        return value instanceof Character ? (Number) (int) (Character) value : (Number) value;
    }

    private static boolean areAlike(Object x, Object y) {
        int s = sortOf(x);
        int t = sortOf(y);
        if (s >= 1 && s <= 7 && t >= 1 && t <= 7) {
            return s <= 5 && t <= 5 ? number(x).longValue() == number(y).longValue()
                    : number(x).doubleValue() == number(y).doubleValue();
        }
        return s == t && Objects.equals(x, y);
    }

    private static boolean store(Object row, int i, Object value) {
        if (value == null && row.getClass().getComponentType().isPrimitive()) {
            return false;
        }
        try {
            Array.set(row, i, value);
            return true;
        } catch (IllegalArgumentException e) {
            return false;
        }
    }

    private static Object readAs(Object row, int i, int as) {
        try {
            switch (as) {
                case 0: return Array.getBoolean(row, i);
                case 1: return Array.getByte(row, i);
                case 2: return Array.getChar(row, i);
                case 3: return Array.getShort(row, i);
                case 4: return Array.getInt(row, i);
                case 5: return Array.getLong(row, i);
                case 6: return Array.getFloat(row, i);
                case 7: return Array.getDouble(row, i);
                default: return Array.get(row, i);
            }
        } catch (IllegalArgumentException e) {
            throw new Fault(KIND);
        }
    }

    private static boolean canRead(Object row, int i, int as) {
        try {
            readAs(row, i, as);
            return true;
        } catch (Fault e) {
            return false;
        }
    }

    private static void writeAs(Object row, int i, int as, Object value) {
        try {
            switch (as) {
                case 0: Array.setBoolean(row, i, (Boolean) value); break;
                case 1: Array.setByte(row, i, (Byte) value); break;
                case 2: Array.setChar(row, i, (Character) value); break;
                case 3: Array.setShort(row, i, (Short) value); break;
                case 4: Array.setInt(row, i, (Integer) value); break;
                case 5: Array.setLong(row, i, (Long) value); break;
                case 6: Array.setFloat(row, i, (Float) value); break;
                default: Array.setDouble(row, i, (Double) value); break;
            }
        } catch (IllegalArgumentException e) {
            throw new Fault(KIND);
        }
    }

    private static Object newRow(int kind, int n) {
        return Array.newInstance(TYPES[kind], n);
    }

    private static Object rowOfValues(int kind, List<Object> values) {
        Object row = newRow(kind, values.size());
        for (int i = 0; i < values.size(); i++) {
            if (!store(row, i, values.get(i))) {
                throw new IllegalStateException("the least kind does not take a value");
            }
        }
        return row;
    }

    private static List<Object> valuesOf(Object row) {
        List<Object> values = new ArrayList<>();
        for (int i = 0; i < length(row); i++) {
            values.add(Array.get(row, i));
        }
        return values;
    }

    private static int least(List<Integer> kinds) {
        Set<Integer> set = new TreeSet<>(kinds);
        if (set.size() == 1) {
            return set.iterator().next();
        }
        if (!set.isEmpty() && set.stream().allMatch(k -> k < 8)) {
            for (int k = 0; k < 8; k++) {
                Object row = newRow(k, 1);
                if (set.stream().allMatch(s -> store(row, 0, make(s, 1)))) {
                    return k;
                }
            }
        }
        return 8;
    }

    private int present() {
        int n = 0;
        for (Object[] grid : grids) {
            n += grid == null ? 0 : 1;
        }
        return n;
    }

    private static Object[][] copy(Object[][] from) {
        IdentityHashMap<Object, Object> copies = new IdentityHashMap<>();
        Object[][] to = new Object[4][];
        for (int g = 0; g < 4; g++) {
            if (from[g] != null) {
                to[g] = new Object[from[g].length];
                for (int p = 0; p < to[g].length; p++) {
                    Object held = from[g][p];
                    to[g][p] = isRow(held) ? copies.computeIfAbsent(held, r -> rowOfValues(kindOf(r), valuesOf(r)))
                            : held;
                }
            }
        }
        return to;
    }

    private Set<Object> rowsOf() {
        Set<Object> rows = java.util.Collections.newSetFromMap(new IdentityHashMap<>());
        for (Object[] grid : grids) {
            if (grid != null) {
                for (Object held : grid) {
                    if (isRow(held)) {
                        rows.add(held);
                    }
                }
            }
        }
        return rows;
    }

    /** All cells of a grid, each as {place, cell}. */
    private static List<int[]> cellsOf(Object[] grid) {
        List<int[]> cells = new ArrayList<>();
        for (int p = 0; p < grid.length; p++) {
            if (isRow(grid[p])) {
                for (int i = 0; i < length(grid[p]); i++) {
                    cells.add(new int[] {p, i});
                }
            }
        }
        return cells;
    }

    private static boolean hasCell(Object[] grid, int p, int i) {
        return p >= 0 && p < grid.length && isRow(grid[p]) && i >= 0 && i < length(grid[p]);
    }

    // ---- grids and places

    private int grid(int g, int n) {
        checkGrids(g);
        fail(n > 6, BAD);
        fail(n < 0, SIZE);
        grids[g] = new Object[n];
        return n;
    }

    private int drop(int g) {
        checkGrids(g);
        int n = gridOf(g).length;
        grids[g] = null;
        return n;
    }

    private int row(int g, int p, int kind, int n) {
        checkGrids(g);
        range(kind, 0, 11);
        fail(n > 12, BAD);
        Object[] grid = placeOf(g, p);
        fail(n < 0, SIZE);
        grid[p] = newRow(kind, n);
        return n;
    }

    private int thing(int g, int p, int what) {
        checkGrids(g);
        range(what, 0, 2);
        placeOf(g, p)[p] = what == 0 ? null : what == 1 ? NAME_THING : TOKEN_THING;
        return 1;
    }

    private int share(int g, int p, int h, int q) {
        checkGrids(g, h);
        Object held = placeOf(g, p)[p];
        placeOf(h, q)[q] = held;
        return content(held);
    }

    private int swap(int g, int p, int h, int q) {
        checkGrids(g, h);
        Object[] one = placeOf(g, p);
        Object[] two = placeOf(h, q);
        Object held = one[p];
        one[p] = two[q];
        two[q] = held;
        return content(one[p]);
    }

    // ---- cells

    private Object cellRow(int g, int p, int i) {
        Object row = rowOf(g, p);
        fail(i < 0 || i >= length(row), INDEX);
        return row;
    }

    private int read(int g, int p, int i, int as) {
        checkGrids(g);
        range(as, 0, 8);
        Object value = readAs(cellRow(g, p, i), i, as);
        told = code(value);
        return sortOf(value);
    }

    private int write(int g, int p, int i, int as, long v) {
        checkGrids(g);
        range(as, 0, 7);
        writeAs(cellRow(g, p, i), i, as, make(as, v));
        return 1;
    }

    private int put(int g, int p, int i, int sort, long v) {
        checkGrids(g);
        range(sort, 0, 11);
        fail(!store(cellRow(g, p, i), i, make(sort, v)), KIND);
        return 1;
    }

    private int find(int g, int p, int sort, long v) {
        checkGrids(g);
        range(sort, 0, 11);
        List<Object> values = valuesOf(rowOf(g, p));
        for (int i = 0; i < values.size(); i++) {
            if (areAlike(values.get(i), make(sort, v))) {
                return i;
            }
        }
        return NONE;
    }

    private int alike(int g, int p, int h, int q) {
        checkGrids(g, h);
        List<Object> one = valuesOf(rowOf(g, p));
        List<Object> two = valuesOf(rowOf(h, q));
        int n = 0;
        for (int i = 0; i < Math.min(one.size(), two.size()); i++) {
            n += areAlike(one.get(i), two.get(i)) ? 1 : 0;
        }
        return n;
    }

    // ---- rows

    private int cut(int g, int p, int i, int n, int q) {
        checkGrids(g);
        range(n, 0, 12);
        Object row = rowOf(g, p);
        fail(i < 0 || (long) i + n > length(row), INDEX);
        placeOf(g, q)[q] = rowOfValues(kindOf(row), valuesOf(row).subList(i, i + n));
        return n;
    }

    private int cast(int g, int p, int kind) {
        checkGrids(g);
        range(kind, 0, 11);
        List<Object> values = valuesOf(rowOf(g, p));
        Object made = newRow(kind, values.size());
        for (int i = 0; i < values.size(); i++) {
            if (!store(made, i, values.get(i))) {
                first = i;
                throw new Fault(KIND);
            }
        }
        grids[g][p] = made;
        return values.size();
    }

    private int pour(int g, int p, int h, int q) {
        checkGrids(g, h);
        Object from = rowOf(g, p);
        Object to = rowOf(h, q);
        int n = 0;
        first = NONE;
        for (int i = 0; i < Math.min(length(from), length(to)); i++) {
            if (store(to, i, Array.get(from, i))) {
                n++;
            } else if (first == NONE) {
                first = i;
            }
        }
        return n;
    }

    private int join(int g, int p, int q) {
        checkGrids(g);
        Object one = rowOf(g, p);
        Object two = rowOf(g, q);
        fail(length(one) + length(two) > 12, FULL);
        List<Object> values = valuesOf(one);
        values.addAll(valuesOf(two));
        grids[g][p] = rowOfValues(least(List.of(kindOf(one), kindOf(two))), values);
        return values.size();
    }

    private interface Move {
        int to(int i, int n);
    }

    private int permute(int g, int p, Move move) {
        checkGrids(g);
        Object row = rowOf(g, p);
        List<Object> values = valuesOf(row);
        for (int i = 0; i < values.size(); i++) {
            Array.set(row, move.to(i, values.size()), values.get(i));
        }
        return values.size();
    }

    private int order(int g, int p) {
        checkGrids(g);
        Object row = rowOf(g, p);
        fail(kindOf(row) >= 8, KIND);
        List<Object> before = valuesOf(row);
        if (row instanceof boolean[]) {
            List<Object> sorted = new ArrayList<>(before);
            sorted.sort((x, y) -> Boolean.compare((Boolean) x, (Boolean) y));
            for (int i = 0; i < sorted.size(); i++) {
                Array.set(row, i, sorted.get(i));
            }
        } else if (row instanceof byte[]) {
            Arrays.sort((byte[]) row);
        } else if (row instanceof char[]) {
            Arrays.sort((char[]) row);
        } else if (row instanceof short[]) {
            Arrays.sort((short[]) row);
        } else if (row instanceof int[]) {
            Arrays.sort((int[]) row);
        } else if (row instanceof long[]) {
            Arrays.sort((long[]) row);
        } else if (row instanceof float[]) {
            Arrays.sort((float[]) row);
        } else {
            Arrays.sort((double[]) row);
        }
        int n = 0;
        for (int i = 0; i < before.size(); i++) {
            n += areAlike(before.get(i), Array.get(row, i)) ? 0 : 1;
        }
        return n;
    }

    private static Object sum(int as, Object x, Object y) {
        switch (as) {
            case 0: return (Boolean) x ^ (Boolean) y;
            case 1: return (byte) ((Byte) x + (Byte) y);
            case 2: return (char) ((Character) x + (Character) y);
            case 3: return (short) ((Short) x + (Short) y);
            case 4: return (Integer) x + (Integer) y;
            case 5: return (Long) x + (Long) y;
            case 6: return (Float) x + (Float) y;
            default: return (Double) x + (Double) y;
        }
    }

    private int add(int g, int p, int as, int v) {
        checkGrids(g);
        range(as, 0, 7);
        Object row = rowOf(g, p);
        for (int i = 0; i < length(row); i++) {
            writeAs(row, i, as, sum(as, readAs(row, i, as), make(as, v)));
        }
        return length(row);
    }

    @SuppressWarnings("unchecked")
    private int above(int g, int p, int as, long v, int q) {
        checkGrids(g);
        range(as, 4, 7);
        Object row = rowOf(g, p);
        boolean[] made = new boolean[length(row)];
        int n = 0;
        for (int i = 0; i < made.length; i++) {
            made[i] = ((Comparable<Object>) readAs(row, i, as)).compareTo(make(as, v)) > 0;
            n += made[i] ? 1 : 0;
        }
        placeOf(g, q)[q] = made;
        return n;
    }

    private int pick(int g, int p, int q) {
        checkGrids(g);
        Object row = rowOf(g, p);
        Object marks = rowOf(g, q);
        List<Object> picked = new ArrayList<>();
        for (int i = 0; i < length(row); i++) {
            fail(i >= length(marks), INDEX);
            if ((Boolean) readAs(marks, i, 0)) {
                picked.add(Array.get(row, i));
            }
        }
        grids[g][p] = rowOfValues(kindOf(row), picked);
        return picked.size();
    }

    // ---- grids as a whole

    private int flat(int g, int h, int q) {
        checkGrids(g, h);
        Object[] from = gridOf(g);
        Object[] to = placeOf(h, q);
        List<Object> values = new ArrayList<>();
        List<Integer> kinds = new ArrayList<>();
        for (Object held : from) {
            if (isRow(held)) {
                values.addAll(valuesOf(held));
                kinds.add(kindOf(held));
            }
        }
        fail(values.size() > 12, FULL);
        to[q] = rowOfValues(least(kinds), values);
        return values.size();
    }

    private int deal(int g, int p, int w, int h) {
        checkGrids(g, h);
        range(w, 1, 12);
        Object row = rowOf(g, p);
        List<Object> values = valuesOf(row);
        List<Object> made = new ArrayList<>();
        for (int from = 0; from < values.size(); from += w) {
            made.add(rowOfValues(kindOf(row), values.subList(from, Math.min(from + w, values.size()))));
        }
        fail(made.size() > 6, FULL);
        grids[h] = made.toArray();
        return made.size();
    }

    private int turn(int g, int h) {
        checkGrids(g, h);
        Object[] from = gridOf(g);
        List<Object> made = new ArrayList<>();
        for (int j = 0; j < 12; j++) {
            List<Object> values = new ArrayList<>();
            List<Integer> kinds = new ArrayList<>();
            for (int p = 0; p < from.length; p++) {
                if (hasCell(from, p, j)) {
                    values.add(Array.get(from[p], j));
                    kinds.add(kindOf(from[p]));
                }
            }
            if (!values.isEmpty()) {
                made.add(rowOfValues(least(kinds), values));
            }
        }
        fail(made.size() > 6, FULL);
        grids[h] = made.toArray();
        return made.size();
    }

    private int times(int a, int b, int h) {
        checkGrids(a, b, h);
        Object[] x = gridOf(a);
        Object[] y = gridOf(b);
        for (Object[] grid : List.of(x, y)) {
            for (int[] cell : cellsOf(grid)) {
                if (!canRead(grid[cell[0]], cell[1], 5)) {
                    // With one grid in both roles it is a place of a.
                    first = cell[0] + (a != b && grid == y ? 10 : 0);
                    throw new Fault(KIND);
                }
            }
        }
        int width = 0;
        for (int[] cell : cellsOf(y)) {
            width = Math.max(width, cell[1] + 1);
        }
        Object[] made = new Object[x.length];
        for (int p = 0; p < x.length; p++) {
            if (isRow(x[p])) {
                long[] row = new long[width];
                for (int j = 0; j < width; j++) {
                    for (int i = 0; i < length(x[p]); i++) {
                        if (hasCell(y, i, j)) {
                            row[j] += Array.getLong(x[p], i) * Array.getLong(y[i], j);
                        }
                    }
                }
                made[p] = row;
            }
        }
        grids[h] = made;
        return made.length;
    }

    private int fold(int g, int way, int k, int op, int as) {
        checkGrids(g);
        range(way, 0, 3);
        range(k, 0, way == 3 ? 0 : Integer.MAX_VALUE);
        range(op, 0, 4);
        fail(as != 4 && as != 5 && as != 7 || op == 3 && as == 7, BAD);
        Object[] grid = gridOf(g);
        fail(way == 0 && k >= grid.length, AFAR);
        List<Object> read = new ArrayList<>();
        int unread = 0;
        for (int[] c : cellsOf(grid)) {
            if (way == 3 || way == 0 && c[0] == k || way == 1 && c[1] == k || way == 2 && c[0] + c[1] == k) {
                if (canRead(grid[c[0]], c[1], as)) {
                    read.add(readAs(grid[c[0]], c[1], as));
                } else {
                    unread++;
                }
            }
        }
        passed = unread;
        told = foldAll(op, as, read);
        return read.size();
    }

    @SuppressWarnings("unchecked")
    private static long foldAll(int op, int as, List<Object> read) {
        Object zero = make(as, 0);
        if (op == 4) {
            return read.stream().filter(x -> number(x).doubleValue() != 0).count();
        }
        Object result = read.isEmpty() ? zero : read.get(0);
        for (Object x : read.subList(Math.min(1, read.size()), read.size())) {
            int compared = ((Comparable<Object>) x).compareTo(result);
            if (op == 0) {
                result = sum(as, result, x);
            } else if (op == 3) {
                result = as == 4 ? (Object) ((Integer) result ^ (Integer) x) : (Object) ((Long) result ^ (Long) x);
            } else if (op == 1 ? compared < 0 : compared > 0) {
                result = x;
            }
        }
        return code(result);
    }

    private int dot(int g, int p, int h, int q, int as) {
        checkGrids(g, h);
        fail(as != 4 && as != 5 && as != 7, BAD);
        Object one = rowOf(g, p);
        Object two = rowOf(h, q);
        int n = Math.min(length(one), length(two));
        int whole = 0;
        long wide = 0;
        double real = 0;
        for (int i = 0; i < n; i++) {
            Object x = readAs(one, i, as);
            Object y = readAs(two, i, as);
            if (as == 4) {
                whole += (Integer) x * (Integer) y;
            } else if (as == 5) {
                wide += (Long) x * (Long) y;
            } else {
                real += (Double) x * (Double) y;
            }
        }
        told = as == 4 ? whole : as == 5 ? wide : code(real);
        return n;
    }

    /** Tries all paths. */
    private int trail(int g) {
        checkGrids(g);
        Object[] grid = gridOf(g);
        List<Object> rows = new ArrayList<>();
        boolean hasEmpty = false;
        for (Object held : grid) {
            if (isRow(held)) {
                rows.add(held);
                hasEmpty |= length(held) == 0;
                for (int i = 0; i < length(held); i++) {
                    readAs(held, i, 4);
                }
            }
        }
        if (hasEmpty) {
            return NONE;
        }
        if (rows.isEmpty()) {
            told = 0;
            first = NONE;
            return 0;
        }
        Long best = null;
        for (int i = 0; i < length(rows.get(0)); i++) {
            Long sum = longest(rows, 0, i);
            if (sum != null && (best == null || sum > best)) {
                best = sum;
                first = i;
            }
        }
        told = best;
        return rows.size();
    }

    private static Long longest(List<Object> rows, int k, int i) {
        if (i < 0 || i >= length(rows.get(k))) {
            return null;
        }
        long here = Array.getInt(rows.get(k), i);
        if (k == rows.size() - 1) {
            return here;
        }
        Long best = null;
        for (int j = i - 1; j <= i + 1; j++) {
            Long sum = longest(rows, k + 1, j);
            if (sum != null && (best == null || sum > best)) {
                best = sum;
            }
        }
        return best == null ? null : (Long) (best + here);
    }

    /** The region of a cell as the numbers 100 * place + cell. */
    private static TreeSet<Integer> region(Object[] grid, int p, int i) {
        TreeSet<Integer> region = new TreeSet<>(Set.of(100 * p + i));
        boolean grows = true;
        while (grows) {
            grows = false;
            for (int[] c : cellsOf(grid)) {
                for (int[] d : new int[][] {{c[0], c[1] - 1}, {c[0], c[1] + 1}, {c[0] - 1, c[1]}, {c[0] + 1, c[1]}}) {
                    if (region.contains(100 * d[0] + d[1]) && hasCell(grid, d[0], d[1])
                            && areAlike(Array.get(grid[c[0]], c[1]), Array.get(grid[d[0]], d[1]))) {
                        grows |= region.add(100 * c[0] + c[1]);
                    }
                }
            }
        }
        return region;
    }

    private int patch(int g, int p, int i) {
        checkGrids(g);
        cellRow(g, p, i);
        TreeSet<Integer> region = region(grids[g], p, i);
        told = region.first();
        return region.size();
    }

    private int patches(int g) {
        checkGrids(g);
        Set<TreeSet<Integer>> regions = new HashSet<>();
        for (int[] c : cellsOf(gridOf(g))) {
            regions.add(region(grids[g], c[0], c[1]));
        }
        told = regions.stream().mapToInt(Set::size).max().orElse(0);
        return regions.size();
    }

    private int paint(int g, int p, int i, int sort, long v) {
        checkGrids(g);
        range(sort, 0, 11);
        cellRow(g, p, i);
        int n = 0;
        for (int cell : region(grids[g], p, i)) {
            n += store(grids[g][cell / 100], cell % 100, make(sort, v)) ? 1 : 0;
        }
        return n;
    }

    private int block(int g) {
        checkGrids(g);
        Object[] grid = gridOf(g);
        Long best = null;
        int[] where = null;
        for (int[] from : cellsOf(grid)) {
            for (int[] to : cellsOf(grid)) {
                Long sum = blockSum(grid, from, to);
                if (sum == null || best != null && sum < best) {
                    continue;
                }
                int[] here = {from[0], from[1], to[0], to[1]};
                if (best == null || sum > best || Arrays.compare(here, where) < 0) {
                    best = sum;
                    where = here;
                }
            }
        }
        if (best == null) {
            return NONE;
        }
        told = best;
        return 1000000 * where[0] + 10000 * where[1] + 100 * where[2] + where[3];
    }

    private static Long blockSum(Object[] grid, int[] from, int[] to) {
        if (from[0] > to[0] || from[1] > to[1]) {
            return null;
        }
        long sum = 0;
        for (int p = from[0]; p <= to[0]; p++) {
            for (int i = from[1]; i <= to[1]; i++) {
                if (!hasCell(grid, p, to[1]) || !canRead(grid[p], i, 4)) {
                    return null;
                }
                sum += Array.getInt(grid[p], i);
            }
        }
        return sum;
    }

    private int lies(int a, int b, int n) {
        checkGrids(a, b);
        fail(n < 0, BAD);
        Object[] in = gridOf(a);
        Object[] what = gridOf(b);
        List<Integer> found = new ArrayList<>();
        for (int p = 0; p + what.length <= in.length; p++) {
            for (int i = 0; i <= 11; i++) {
                boolean occurs = true;
                for (int[] c : cellsOf(what)) {
                    Object value = Array.get(what[c[0]], c[1]);
                    occurs &= hasCell(in, p + c[0], i + c[1])
                            && (value == null || areAlike(value, Array.get(in[p + c[0]], i + c[1])));
                }
                if (occurs) {
                    found.add(100 * p + i);
                }
            }
        }
        if (n >= found.size()) {
            return NONE;
        }
        told = found.size();
        return found.get(n);
    }

    // ---- plans

    private int type(int letter) {
        range(letter, 0, 255);
        fail(text.length() == 80, FULL);
        text.append((char) letter);
        return text.length();
    }

    private static final Map<String, Integer> WORDS = Map.ofEntries(Map.entry("row", 4), Map.entry("drop", 1),
            Map.entry("swap", 4), Map.entry("share", 4), Map.entry("cut", 5), Map.entry("cast", 3),
            Map.entry("join", 3), Map.entry("flip", 2), Map.entry("roll", 3), Map.entry("order", 2),
            Map.entry("add", 4), Map.entry("flat", 3), Map.entry("deal", 4), Map.entry("turn", 2));

    private int plan() {
        List<String> words = new ArrayList<>();
        List<List<Long>> numbers = new ArrayList<>();
        int wanted = -1; // numbers that the step still needs; -1 before its word
        java.util.regex.Matcher token = java.util.regex.Pattern.compile("[a-z]+|[0-9]+|[^ ]", 32).matcher(text);
        while (token.find()) {
            String t = token.group();
            boolean isWord = t.charAt(0) >= 'a' && t.charAt(0) <= 'z';
            boolean isNumber = t.charAt(0) >= '0' && t.charAt(0) <= '9';
            if (wanted == -1 && isWord && WORDS.containsKey(t) && words.size() < 8) {
                words.add(t);
                numbers.add(new ArrayList<>());
                wanted = WORDS.get(t);
            } else if (wanted > 0 && isNumber && t.length() <= 2) {
                numbers.get(numbers.size() - 1).add(Long.parseLong(t));
                wanted--;
            } else if (wanted == 0 && t.equals(";")) {
                wanted = -1;
            } else {
                return -20 - token.start();
            }
        }
        if (wanted != -1) {
            return -20 - text.length();
        }
        Object[][] before = copy(grids);
        for (int k = 0; k < words.size(); k++) {
            try {
                step(words.get(k), numbers.get(k).stream().mapToLong(x -> x).toArray());
            } catch (Fault fault) {
                grids = before;
                first = k;
                throw fault;
            }
        }
        return words.size();
    }

    // ---- kinds

    private static boolean fits(int act, int kind) {
        Object row = newRow(kind, 1);
        if (act < 8) {
            return canRead(row, 0, act);
        }
        if (act >= 16) {
            return store(row, 0, make(act - 16, 1));
        }
        try {
            writeAs(row, 0, act - 8, make(act - 8, 1));
            return true;
        } catch (Fault fault) {
            return false;
        }
    }

    private int sees(int act, int taken) {
        range(act, 0, 27);
        range(taken, 0, 1);
        fail(seen.size() == 6, FULL);
        seen.add(new int[] {act, taken});
        return seen.size();
    }

    private List<Integer> left() {
        List<Integer> kinds = new ArrayList<>();
        for (int k = 0; k < 12; k++) {
            int kind = k;
            if (seen.stream().allMatch(s -> fits(s[0], kind) == (s[1] == 1))) {
                kinds.add(k);
            }
        }
        return kinds;
    }

    private int next() {
        List<Integer> kinds = left();
        if (kinds.size() < 2) {
            return NONE;
        }
        int best = NONE;
        long size = 99;
        for (int act = 27; act >= 0; act--) {
            int a = act;
            long allow = kinds.stream().filter(k -> fits(a, k)).count();
            long greater = Math.max(allow, kinds.size() - allow);
            if (greater <= size) {
                best = act;
                size = greater;
            }
        }
        told = size;
        return best;
    }

    // ---- numbers

    private long count(int what) {
        long n = 0;
        for (Object[] grid : grids) {
            for (Object held : grid == null ? new Object[0] : grid) {
                n += what == 1 || what == 2 && isRow(held) || what == 5 && held == null
                        || what == 6 && held != null && !isRow(held) ? 1 : 0;
            }
        }
        switch (what) {
            case 0: return present();
            case 3: return rowsOf().size();
            case 4: return rowsOf().stream().mapToInt(ReflectModel::length).sum();
            case 7: return rowsOf().stream().flatMap(r -> valuesOf(r).stream()).filter(x -> x == null).count();
            case 8: return text.length();
            case 9: return (images[0] == null ? 0 : 1) + (images[1] == null ? 0 : 1);
            default: return what < 0 || what > 9 ? BAD : n;
        }
    }

    private long digest() {
        IdentityHashMap<Object, Integer> firsts = new IdentityHashMap<>();
        List<Long> values = new ArrayList<>();
        for (int g = 0; g < 4; g++) {
            values.add(grids[g] == null ? -1L : grids[g].length);
            for (int p = 0; grids[g] != null && p < grids[g].length; p++) {
                Object held = grids[g][p];
                values.add((long) content(held));
                if (isRow(held)) {
                    firsts.putIfAbsent(held, 10 * g + p);
                    values.add((long) firsts.get(held));
                    values.add((long) length(held));
                    for (Object value : valuesOf(held)) {
                        values.add((long) sortOf(value));
                        values.add(code(value));
                    }
                }
            }
        }
        long h = 17;
        for (long v : values) {
            h = 31 * h + v;
        }
        return h;
    }
}
