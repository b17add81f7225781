import java.util.Arrays;

/** Grids whose places hold rows of different kinds. The project's document says what each call promises. */
public final class KindGrids {
    public static final int BAD = -1, VOID = -2, AFAR = -3, NOUGHT = -4, THING = -5, INDEX = -6, KIND = -7, SIZE = -8,
            NONE = -9, FULL = -10;

    private static final int GRIDS = 4, PLACES = 6, CELLS = 12, KINDS = 12, SORTS = 12, ACTS = 28;
    private static final int IMAGES = 2, LETTERS = 80, STEPS = 8, NUMBERS = 5, OBSERVATIONS = 6;

    private static final int BOOLEAN = 0, BYTE = 1, CHAR = 2, SHORT = 3, INT = 4, LONG = 5, FLOAT = 6, DOUBLE = 7;
    private static final int OBJECT = 8, NOTHING = 11;
    private static final int NAME = 12, TOKEN = 13, EMPTY = 14;

    /** The kinds of acts: below WRITES a cell is read, below PUTS a value is written, from there on it is put. */
    private static final int WRITES = 8, PUTS = 16;

    /** Errors of a plan's text stand below all error codes: this number minus the position. */
    private static final int TEXT_FAULT = -20;

    /** For each kind the sorts of values that its cells take, bit s for sort s. */
    private static final int[] TAKEN = {
        0x001, 0x002, 0x004, 0x00a, 0x01e, 0x03e, 0x07e, 0x0fe, 0xfff, 0x810, 0xb00, 0xc00
    };

    private static final Step[] WORDS = Step.values();

    private final Store store = new Store();
    private final Store undo = new Store();
    private final Store[] images = new Store[IMAGES];
    private final Notes notes = new Notes();
    private final Rows rows = new Rows(store, notes);
    private final Wholes wholes = new Wholes(store, notes);
    private final Sums sums = new Sums(store, notes);
    private final Searches searches = new Searches(store, notes);
    private final Regions regions = new Regions(store, notes);
    private final PlanText text = new PlanText();
    private final Guesses guesses = new Guesses(notes);
    private final int[] refused = new int[1 - FULL];

    public KindGrids() {
    }

    public int grid(int g, int n) {
        return tally(store.newGrid(g, n));
    }

    public int drop(int g) {
        return tally(store.removeGrid(g));
    }

    public int row(int g, int p, int kind, int n) {
        return tally(store.newRow(g, p, kind, n));
    }

    public int thing(int g, int p, int what) {
        return tally(store.setThing(g, p, what));
    }

    public int share(int g, int p, int h, int q) {
        return tally(store.shareContent(g, p, h, q));
    }

    public int swap(int g, int p, int h, int q) {
        return tally(store.exchange(g, p, h, q));
    }

    public int holds(int g, int p) {
        return tally(store.contentOf(g, p));
    }

    public int same(int g, int p, int h, int q) {
        return tally(store.holdSameRow(g, p, h, q));
    }

    public int size(int g, int p) {
        return tally(store.lengthOf(g, p));
    }

    public int read(int g, int p, int i, int as) {
        return tally(rows.readCell(g, p, i, as));
    }

    public int write(int g, int p, int i, int as, long v) {
        return tally(rows.writeCell(g, p, i, as, v));
    }

    public int put(int g, int p, int i, int sort, long v) {
        return tally(rows.putCell(g, p, i, sort, v));
    }

    public int find(int g, int p, int sort, long v) {
        return tally(rows.findValue(g, p, sort, v));
    }

    public int alike(int g, int p, int h, int q) {
        return tally(rows.countMatches(g, p, h, q));
    }

    public int cut(int g, int p, int i, int n, int q) {
        return tally(rows.cutOut(g, p, i, n, q));
    }

    public int cast(int g, int p, int kind) {
        return tally(rows.castRow(g, p, kind));
    }

    public int pour(int g, int p, int h, int q) {
        return tally(rows.pourInto(g, p, h, q));
    }

    public int join(int g, int p, int q) {
        return tally(rows.joinRows(g, p, q));
    }

    public int flip(int g, int p) {
        return tally(rows.reverse(g, p));
    }

    public int roll(int g, int p, int k) {
        return tally(rows.rotate(g, p, k));
    }

    public int order(int g, int p) {
        return tally(rows.sortRow(g, p));
    }

    public int add(int g, int p, int as, int v) {
        return tally(rows.increase(g, p, as, v));
    }

    public int above(int g, int p, int as, long v, int q) {
        return tally(rows.markGreater(g, p, as, v, q));
    }

    public int pick(int g, int p, int q) {
        return tally(rows.pickTrue(g, p, q));
    }

    public int flat(int g, int h, int q) {
        return tally(wholes.flatten(g, h, q));
    }

    public int deal(int g, int p, int w, int h) {
        return tally(wholes.dealOut(g, p, w, h));
    }

    public int turn(int g, int h) {
        return tally(wholes.transpose(g, h));
    }

    public int times(int a, int b, int h) {
        return tally(wholes.multiply(a, b, h));
    }

    public int fold(int g, int way, int k, int op, int as) {
        return tally(sums.foldCells(g, way, k, op, as));
    }

    public int dot(int g, int p, int h, int q, int as) {
        return tally(sums.sumProducts(g, p, h, q, as));
    }

    public int trail(int g) {
        return tally(searches.bestTrail(g));
    }

    public int patch(int g, int p, int i) {
        return tally(regions.regionOf(g, p, i));
    }

    public int patches(int g) {
        return tally(regions.countRegions(g));
    }

    public int paint(int g, int p, int i, int sort, long v) {
        return tally(regions.paintRegion(g, p, i, sort, v));
    }

    public int block(int g) {
        return tally(searches.bestBlock(g));
    }

    public int lies(int a, int b, int n) {
        return tally(searches.findGrid(a, b, n));
    }

    public int type(int letter) {
        return tally(text.append(letter));
    }

    public int clear() {
        return text.empty();
    }

    public int plan() {
        int steps = text.parse();
        undo.copyFrom(store);
        for (int step = 0; step < steps; step++) {
            int answer = carryOut(step);
            if (answer < 0) {
                store.copyFrom(undo);
                notes.first = step;
                return tally(answer);
            }
        }
        return steps;
    }

    public int least(int a, int b) {
        return tally(isKind(a) && isKind(b) ? leastKind(1 << a | 1 << b) : BAD);
    }

    public int fits(int act, int kind) {
        if (!isAct(act) || !isKind(kind)) {
            return tally(BAD);
        }
        return allows(act, kind) ? 1 : 0;
    }

    public int sees(int act, int taken) {
        return tally(guesses.observe(act, taken));
    }

    public int forget() {
        return guesses.removeAll();
    }

    public int left() {
        return guesses.possibleKinds();
    }

    public int next() {
        return guesses.bestAct();
    }

    public int keep(int image) {
        if (!isImage(image)) {
            return tally(BAD);
        }
        if (images[image] == null) {
            images[image] = new Store();
        }
        images[image].copyFrom(store);
        return store.presentGrids();
    }

    public int back(int image) {
        if (!isImage(image)) {
            return tally(BAD);
        }
        if (images[image] == null) {
            return tally(VOID);
        }
        store.copyFrom(images[image]);
        return store.presentGrids();
    }

    public long told() {
        return notes.told;
    }

    public int first() {
        return notes.first;
    }

    public int passed() {
        return notes.passed;
    }

    public int refusals(int what) {
        if (what < FULL || what > BAD || what == NONE) {
            return BAD;
        }
        return refused[-what];
    }

    public int count(int what) {
        switch (what) {
            case 8:
                return text.length;
            case 9:
                return keptImages();
            default:
                return what < 0 || what > 9 ? BAD : store.amountOf(what);
        }
    }

    public int kinds(int kind) {
        return isKind(kind) ? store.rowsOfKind(kind) : BAD;
    }

    public long digest() {
        return store.checksum();
    }

    /** Counts an answer if it is an error; NONE and the faults of a plan's text are none. */
    private int tally(int answer) {
        if (answer >= FULL && answer <= BAD && answer != NONE) {
            refused[-answer]++;
        }
        return answer;
    }

    private int keptImages() {
        int kept = 0;
        for (int image = 0; image < IMAGES; image++) {
            kept += images[image] == null ? 0 : 1;
        }
        return kept;
    }

    /** Goes round tally(): an error of a step is counted once, for the plan. */
    private int carryOut(int step) {
        int a = text.numberOf(step, 0);
        int b = text.numberOf(step, 1);
        int c = text.numberOf(step, 2);
        int d = text.numberOf(step, 3);
        switch (text.wordOf(step)) {
            case ROW:
                return store.newRow(a, b, c, d);
            case DROP:
                return store.removeGrid(a);
            case SWAP:
                return store.exchange(a, b, c, d);
            case SHARE:
                return store.shareContent(a, b, c, d);
            case CUT:
                return rows.cutOut(a, b, c, d, text.numberOf(step, 4));
            case CAST:
                return rows.castRow(a, b, c);
            case JOIN:
                return rows.joinRows(a, b, c);
            case FLIP:
                return rows.reverse(a, b);
            case ROLL:
                return rows.rotate(a, b, c);
            case ORDER:
                return rows.sortRow(a, b);
            case ADD:
                return rows.increase(a, b, c, d);
            case FLAT:
                return wholes.flatten(a, b, c);
            case DEAL:
                return wholes.dealOut(a, b, c, d);
            default:
                return wholes.transpose(a, b);
        }
    }

    private static boolean isGrid(int g) {
        return g >= 0 && g < GRIDS;
    }

    private static boolean isKind(int kind) {
        return kind >= 0 && kind < KINDS;
    }

    private static boolean isPlain(int kind) {
        return kind >= 0 && kind < OBJECT;
    }

    private static boolean isSort(int sort) {
        return sort >= 0 && sort < SORTS;
    }

    private static boolean isNumber(int sort) {
        return sort >= BYTE && sort <= DOUBLE;
    }

    private static boolean isReal(int sort) {
        return sort == FLOAT || sort == DOUBLE;
    }

    private static boolean isAct(int act) {
        return act >= 0 && act < ACTS;
    }

    private static boolean isImage(int image) {
        return image >= 0 && image < IMAGES;
    }

    private static boolean takes(int kind, int sort) {
        return kind >= 0 && kind < KINDS && sort >= 0 && sort < SORTS && (TAKEN[kind] >> sort & 1) == 1;
    }

    /** Tells whether the cells of rows of a kind can be read as a plain kind. */
    private static boolean readsAs(int kind, int as) {
        return isPlain(kind) && isPlain(as) && takes(as, kind);
    }

    private static boolean allows(int act, int kind) {
        if (act < WRITES) {
            return readsAs(kind, act);
        }
        if (act < PUTS) {
            return isPlain(kind) && takes(kind, act - WRITES);
        }
        return takes(kind, act - PUTS);
    }

    /** The least kind of a set of kinds, bit k for kind k. */
    private static int leastKind(int set) {
        for (int kind = 0; kind < KINDS; kind++) {
            if (set == 1 << kind) {
                return kind;
            }
        }
        // Without this the lowest plain kind would be found for no kinds at all.
        if (set == 0) {
            return OBJECT;
        }
        for (int kind = 0; kind < OBJECT; kind++) {
            if ((TAKEN[kind] & set) == set) {
                return kind;
            }
        }
        return OBJECT;
    }

    /** Casts a number to the type of a sort below FLOAT; of the sum of two booleans this makes the exclusive or. */
    private static long narrowed(int sort, long v) {
        switch (sort) {
            case BOOLEAN:
                return v & 1;
            case BYTE:
                return (byte) v;
            case CHAR:
                return (char) v;
            case SHORT:
                return (short) v;
            case INT:
                return (int) v;
            default:
                return v;
        }
    }

    private static long codeOfReal(double x) {
        return (long) (8.0 * x);
    }

    /** What calls leave behind for told(), first() and passed(). */
    private static final class Notes {
        long told = 0;
        int first = NONE;
        int passed = 0;
    }

    /** Up to twelve values; a single value is held as a row of kind OBJECT with one cell. */
    private static final class Row {
        final int number;
        int kind = OBJECT;
        int length = 0;
        final int[] sorts = new int[CELLS];
        /** The codes of all values but floats and doubles. */
        final long[] whole = new long[CELLS];
        /** Floats stand here as doubles, which hold each of them exactly. */
        final double[] real = new double[CELLS];

        Row(int number) {
            this.number = number;
        }

        void begin(int newKind, int newLength) {
            kind = newKind;
            length = newLength;
            Arrays.fill(sorts, newKind < OBJECT ? newKind : NOTHING);
            Arrays.fill(whole, 0L);
            Arrays.fill(real, 0.0);
        }

        void copyFrom(Row other) {
            kind = other.kind;
            length = other.length;
            System.arraycopy(other.sorts, 0, sorts, 0, CELLS);
            System.arraycopy(other.whole, 0, whole, 0, CELLS);
            System.arraycopy(other.real, 0, real, 0, CELLS);
        }

        boolean hasCell(int i) {
            return i >= 0 && i < length;
        }

        /** Becomes the one value that a sort and a long make. */
        void become(int sort, long v) {
            begin(OBJECT, 1);
            sorts[0] = sort;
            if (sort <= LONG) {
                whole[0] = narrowed(sort, v);
            } else if (sort == FLOAT) {
                real[0] = (float) v / 8.0f;
            } else if (sort == DOUBLE) {
                real[0] = (double) v / 8.0;
            } else if (sort < NOTHING) {
                whole[0] = v & 3;
            }
        }

        /** Puts a value to a cell, widened if need be; tells whether the cell takes it. */
        boolean accept(int i, Row from, int j) {
            int sort = from.sorts[j];
            if (!takes(kind, sort)) {
                return false;
            }
            sorts[i] = isPlain(kind) ? kind : sort;
            if (isReal(kind)) {
                real[i] = kind == FLOAT ? from.floatAt(j) : from.doubleAt(j);
            } else {
                whole[i] = from.whole[j];
                real[i] = from.real[j];
            }
            return true;
        }

        /** Goes straight from long to float: by way of double some longs would be rounded twice. */
        float floatAt(int i) {
            return isReal(sorts[i]) ? (float) real[i] : (float) whole[i];
        }

        double doubleAt(int i) {
            return isReal(sorts[i]) ? real[i] : (double) whole[i];
        }

        long codeAt(int i) {
            return isReal(sorts[i]) ? codeOfReal(real[i]) : whole[i];
        }

        boolean matches(int i, Row other, int j) {
            int sort = sorts[i];
            int otherSort = other.sorts[j];
            if (isNumber(sort) && isNumber(otherSort)) {
                if (isReal(sort) || isReal(otherSort)) {
                    return doubleAt(i) == other.doubleAt(j);
                }
                return whole[i] == other.whole[j];
            }
            return sort == otherSort && whole[i] == other.whole[j];
        }

        /** Compares two values of the same plain sort. */
        boolean exceeds(int i, Row other, int j) {
            return isReal(sorts[i]) ? real[i] > other.real[j] : whole[i] > other.whole[j];
        }

        boolean cellsReadAs(int as) {
            return length == 0 || readsAs(kind, as);
        }
    }

    /** The grids and their rows. */
    private static final class Store {
        /** One grid more than can be seen: a new grid is made there while the one that it replaces is still read. */
        static final int SPARE = GRIDS;
        /** As many rows as all places can hold, and one that is made while its place still holds another one. */
        static final int POOL = (GRIDS + 1) * PLACES + 1;

        /** The number of places of each grid, -1 if it is missing. */
        final int[] places = new int[GRIDS + 1];
        /** For each place the number of its row, or what holds() returns with a minus. */
        final int[] held = new int[(GRIDS + 1) * PLACES];
        final Row[] pool = new Row[POOL];

        Store() {
            Arrays.fill(places, -1);
            Arrays.fill(held, -EMPTY);
            for (int number = 0; number < POOL; number++) {
                pool[number] = new Row(number);
            }
        }

        void copyFrom(Store other) {
            System.arraycopy(other.places, 0, places, 0, places.length);
            System.arraycopy(other.held, 0, held, 0, held.length);
            for (int number = 0; number < POOL; number++) {
                pool[number].copyFrom(other.pool[number]);
            }
        }

        boolean hasPlace(int g, int p) {
            return g >= 0 && g < GRIDS && p >= 0 && p < places[g];
        }

        /** The row of a place, null if there is none. */
        Row rowAt(int g, int p) {
            if (!hasPlace(g, p)) {
                return null;
            }
            int number = held[g * PLACES + p];
            return number < 0 ? null : pool[number];
        }

        int gridFault(int g) {
            if (!isGrid(g)) {
                return BAD;
            }
            return places[g] < 0 ? VOID : 0;
        }

        int placeFault(int g, int p) {
            int fault = gridFault(g);
            if (fault < 0) {
                return fault;
            }
            return hasPlace(g, p) ? 0 : AFAR;
        }

        /** The error of a place from which no row can be had. */
        int rowFault(int g, int p) {
            int fault = placeFault(g, p);
            if (fault < 0) {
                return fault;
            }
            return held[g * PLACES + p] == -EMPTY ? NOUGHT : THING;
        }

        /** The first of all places that holds a row, counted through all grids, or NONE. */
        int firstHolder(int number) {
            for (int place = 0; place < held.length; place++) {
                if (held[place] == number) {
                    return place;
                }
            }
            return NONE;
        }

        /** A new row, which no place holds yet. It must be placed before the next one is asked for. */
        Row freshRow(int kind, int length) {
            int number = 0;
            while (number < POOL - 1 && firstHolder(number) != NONE) {
                number++;
            }
            pool[number].begin(kind, length);
            return pool[number];
        }

        void place(int g, int p, Row row) {
            held[g * PLACES + p] = row.number;
        }

        void startGrid(int n) {
            places[SPARE] = n;
        }

        Row rowOfNewGrid(int p, int kind, int length) {
            Row row = freshRow(kind, length);
            place(SPARE, p, row);
            return row;
        }

        /** Puts the new grid in the place of another one. */
        int finishGrid(int h) {
            places[h] = places[SPARE];
            for (int p = 0; p < PLACES; p++) {
                held[h * PLACES + p] = held[SPARE * PLACES + p];
                held[SPARE * PLACES + p] = -EMPTY;
            }
            return places[h];
        }

        int newGrid(int g, int n) {
            if (!isGrid(g) || n > PLACES) {
                return BAD;
            }
            if (n < 0) {
                return SIZE;
            }
            startGrid(n);
            return finishGrid(g);
        }

        int removeGrid(int g) {
            int fault = gridFault(g);
            if (fault < 0) {
                return fault;
            }
            int had = places[g];
            startGrid(-1);
            finishGrid(g);
            return had;
        }

        int newRow(int g, int p, int kind, int n) {
            if (!isGrid(g) || !isKind(kind) || n > CELLS) {
                return BAD;
            }
            int fault = placeFault(g, p);
            if (fault < 0) {
                return fault;
            }
            if (n < 0) {
                return SIZE;
            }
            place(g, p, freshRow(kind, n));
            return n;
        }

        int setThing(int g, int p, int what) {
            if (!isGrid(g) || what < 0 || what > 2) {
                return BAD;
            }
            int fault = placeFault(g, p);
            if (fault < 0) {
                return fault;
            }
            held[g * PLACES + p] = what == 0 ? -EMPTY : what == 1 ? -NAME : -TOKEN;
            return 1;
        }

        int pairFault(int g, int p, int h, int q) {
            if (!isGrid(g) || !isGrid(h)) {
                return BAD;
            }
            int fault = placeFault(g, p);
            return fault < 0 ? fault : placeFault(h, q);
        }

        int shareContent(int g, int p, int h, int q) {
            int fault = pairFault(g, p, h, q);
            if (fault < 0) {
                return fault;
            }
            held[h * PLACES + q] = held[g * PLACES + p];
            return contentOf(h, q);
        }

        int exchange(int g, int p, int h, int q) {
            int fault = pairFault(g, p, h, q);
            if (fault < 0) {
                return fault;
            }
            int moved = held[g * PLACES + p];
            held[g * PLACES + p] = held[h * PLACES + q];
            held[h * PLACES + q] = moved;
            return contentOf(g, p);
        }

        int contentOf(int g, int p) {
            int fault = placeFault(g, p);
            if (fault < 0) {
                return fault;
            }
            Row row = rowAt(g, p);
            return row == null ? -held[g * PLACES + p] : row.kind;
        }

        int holdSameRow(int g, int p, int h, int q) {
            if (!isGrid(g) || !isGrid(h)) {
                return BAD;
            }
            Row one = rowAt(g, p);
            if (one == null) {
                return rowFault(g, p);
            }
            Row other = rowAt(h, q);
            if (other == null) {
                return rowFault(h, q);
            }
            return one.number == other.number ? 1 : 0;
        }

        int lengthOf(int g, int p) {
            Row row = rowAt(g, p);
            return row == null ? rowFault(g, p) : row.length;
        }

        /** How many cells a place has; what is no row has none. */
        int cellsAt(int g, int p) {
            Row row = rowAt(g, p);
            return row == null ? 0 : row.length;
        }

        /** How many cells the longest row of a grid has, 0 without rows. */
        int longestRow(int g) {
            int most = 0;
            for (int p = 0; p < places[g]; p++) {
                most = Math.max(most, cellsAt(g, p));
            }
            return most;
        }

        /** The first place whose row has cells that cannot be read as a kind, or NONE. */
        int firstUnreadable(int g, int as) {
            for (int p = 0; p < places[g]; p++) {
                Row row = rowAt(g, p);
                if (row != null && !row.cellsReadAs(as)) {
                    return p;
                }
            }
            return NONE;
        }

        int presentGrids() {
            int present = 0;
            for (int g = 0; g < GRIDS; g++) {
                present += places[g] < 0 ? 0 : 1;
            }
            return present;
        }

        /** The numbers of count() that are about grids. */
        int amountOf(int what) {
            if (what == 0) {
                return presentGrids();
            }
            int amount = 0;
            for (int g = 0; g < GRIDS; g++) {
                for (int p = 0; p < places[g]; p++) {
                    amount += amountAt(what, g, p);
                }
            }
            return amount;
        }

        int amountAt(int what, int g, int p) {
            Row row = rowAt(g, p);
            boolean counts = row != null && firstHolder(row.number) == g * PLACES + p;
            switch (what) {
                case 1:
                    return 1;
                case 2:
                    return row != null ? 1 : 0;
                case 3:
                    return counts ? 1 : 0;
                case 4:
                    return counts ? row.length : 0;
                case 5:
                    return held[g * PLACES + p] == -EMPTY ? 1 : 0;
                case 6:
                    return row == null && held[g * PLACES + p] != -EMPTY ? 1 : 0;
                default:
                    return counts ? nullsOf(row) : 0;
            }
        }

        static int nullsOf(Row row) {
            int nulls = 0;
            for (int i = 0; i < row.length; i++) {
                nulls += row.sorts[i] == NOTHING ? 1 : 0;
            }
            return nulls;
        }

        int rowsOfKind(int kind) {
            int amount = 0;
            for (int number = 0; number < POOL; number++) {
                amount += pool[number].kind == kind && firstHolder(number) != NONE ? 1 : 0;
            }
            return amount;
        }

        long checksum() {
            long h = 17;
            for (int g = 0; g < GRIDS; g++) {
                h = 31 * h + places[g];
                for (int p = 0; p < places[g]; p++) {
                    h = 31 * h + contentOf(g, p);
                    Row row = rowAt(g, p);
                    h = row == null ? h : checksumOfRow(h, row);
                }
            }
            return h;
        }

        long checksumOfRow(long before, Row row) {
            int holder = firstHolder(row.number);
            long h = 31 * before + 10 * (holder / PLACES) + holder % PLACES;
            h = 31 * h + row.length;
            for (int i = 0; i < row.length; i++) {
                h = 31 * h + row.sorts[i];
                h = 31 * h + row.codeAt(i);
            }
            return h;
        }
    }

    /** Rows and their cells. */
    private static final class Rows {
        final Store store;
        final Notes notes;
        final Row hand = new Row(NONE);
        /** How a row was before it is changed, or how its cells read. */
        final Row aside = new Row(NONE);

        Rows(Store store, Notes notes) {
            this.store = store;
            this.notes = notes;
        }

        int readCell(int g, int p, int i, int as) {
            if (!isGrid(g) || as < 0 || as > OBJECT) {
                return BAD;
            }
            Row row = store.rowAt(g, p);
            if (row == null) {
                return store.rowFault(g, p);
            }
            if (!row.hasCell(i)) {
                return INDEX;
            }
            if (as < OBJECT && !readsAs(row.kind, as)) {
                return KIND;
            }
            // To read as a kind widens just as to put into a cell of that kind does.
            hand.begin(as, 1);
            hand.accept(0, row, i);
            notes.told = hand.codeAt(0);
            return hand.sorts[0];
        }

        int writeCell(int g, int p, int i, int as, long v) {
            if (!isGrid(g) || !isPlain(as)) {
                return BAD;
            }
            Row row = store.rowAt(g, p);
            // Some rows that are not plain take plain values too, but only if these are put.
            if (row != null && row.hasCell(i) && !isPlain(row.kind)) {
                return KIND;
            }
            return putCell(g, p, i, as, v);
        }

        int putCell(int g, int p, int i, int sort, long v) {
            if (!isGrid(g) || !isSort(sort)) {
                return BAD;
            }
            Row row = store.rowAt(g, p);
            if (row == null) {
                return store.rowFault(g, p);
            }
            if (!row.hasCell(i)) {
                return INDEX;
            }
            hand.become(sort, v);
            return row.accept(i, hand, 0) ? 1 : KIND;
        }

        int findValue(int g, int p, int sort, long v) {
            if (!isGrid(g) || !isSort(sort)) {
                return BAD;
            }
            Row row = store.rowAt(g, p);
            if (row == null) {
                return store.rowFault(g, p);
            }
            hand.become(sort, v);
            for (int i = 0; i < row.length; i++) {
                if (row.matches(i, hand, 0)) {
                    return i;
                }
            }
            return NONE;
        }

        int countMatches(int g, int p, int h, int q) {
            if (!isGrid(g) || !isGrid(h)) {
                return BAD;
            }
            Row one = store.rowAt(g, p);
            if (one == null) {
                return store.rowFault(g, p);
            }
            Row other = store.rowAt(h, q);
            if (other == null) {
                return store.rowFault(h, q);
            }
            int matches = 0;
            for (int i = 0; i < one.length && i < other.length; i++) {
                matches += one.matches(i, other, i) ? 1 : 0;
            }
            return matches;
        }

        int cutOut(int g, int p, int i, int n, int q) {
            if (!isGrid(g) || n < 0 || n > CELLS) {
                return BAD;
            }
            Row row = store.rowAt(g, p);
            if (row == null) {
                return store.rowFault(g, p);
            }
            if (i < 0 || i > row.length - n) {
                return INDEX;
            }
            if (!store.hasPlace(g, q)) {
                return AFAR;
            }
            Row made = store.freshRow(row.kind, n);
            append(made, 0, row, i, n);
            store.place(g, q, made);
            return n;
        }

        /** Copies n cells of a row to another one that takes them all. */
        static void append(Row made, int at, Row from, int i, int n) {
            for (int k = 0; k < n; k++) {
                made.accept(at + k, from, i + k);
            }
        }

        int castRow(int g, int p, int kind) {
            if (!isGrid(g) || !isKind(kind)) {
                return BAD;
            }
            Row row = store.rowAt(g, p);
            if (row == null) {
                return store.rowFault(g, p);
            }
            Row made = store.freshRow(kind, row.length);
            for (int i = 0; i < row.length; i++) {
                if (!made.accept(i, row, i)) {
                    notes.first = i;
                    return KIND;
                }
            }
            store.place(g, p, made);
            return made.length;
        }

        int pourInto(int g, int p, int h, int q) {
            if (!isGrid(g) || !isGrid(h)) {
                return BAD;
            }
            Row from = store.rowAt(g, p);
            if (from == null) {
                return store.rowFault(g, p);
            }
            Row to = store.rowAt(h, q);
            if (to == null) {
                return store.rowFault(h, q);
            }
            int taken = 0;
            notes.first = NONE;
            for (int i = 0; i < from.length && i < to.length; i++) {
                if (to.accept(i, from, i)) {
                    taken++;
                } else if (notes.first == NONE) {
                    notes.first = i;
                }
            }
            return taken;
        }

        int joinRows(int g, int p, int q) {
            Row one = store.rowAt(g, p);
            if (one == null) {
                return store.rowFault(g, p);
            }
            Row other = store.rowAt(g, q);
            if (other == null) {
                return store.rowFault(g, q);
            }
            if (one.length + other.length > CELLS) {
                return FULL;
            }
            Row made = store.freshRow(leastKind(1 << one.kind | 1 << other.kind), one.length + other.length);
            append(made, 0, one, 0, one.length);
            append(made, one.length, other, 0, other.length);
            store.place(g, p, made);
            return made.length;
        }

        int reverse(int g, int p) {
            Row row = store.rowAt(g, p);
            if (row == null) {
                return store.rowFault(g, p);
            }
            aside.copyFrom(row);
            for (int i = 0; i < row.length; i++) {
                row.accept(row.length - 1 - i, aside, i);
            }
            return row.length;
        }

        int rotate(int g, int p, int k) {
            Row row = store.rowAt(g, p);
            if (row == null) {
                return store.rowFault(g, p);
            }
            if (row.length == 0) {
                return 0;
            }
            int shift = Math.floorMod(k, row.length);
            aside.copyFrom(row);
            append(row, shift, aside, 0, row.length - shift);
            append(row, 0, aside, row.length - shift, shift);
            return row.length;
        }

        int sortRow(int g, int p) {
            Row row = store.rowAt(g, p);
            if (row == null) {
                return store.rowFault(g, p);
            }
            if (!isPlain(row.kind)) {
                return KIND;
            }
            aside.copyFrom(row);
            for (int i = 1; i < row.length; i++) {
                insert(row, i);
            }
            int changed = 0;
            for (int i = 0; i < row.length; i++) {
                changed += row.matches(i, aside, i) ? 0 : 1;
            }
            return changed;
        }

        /** Moves a cell down among the sorted ones before it. */
        void insert(Row row, int last) {
            hand.begin(row.kind, 1);
            hand.accept(0, row, last);
            int i = last;
            while (i > 0 && row.exceeds(i - 1, hand, 0)) {
                row.accept(i, row, i - 1);
                i--;
            }
            row.accept(i, hand, 0);
        }

        int increase(int g, int p, int as, int v) {
            if (!isGrid(g) || !isPlain(as)) {
                return BAD;
            }
            Row row = store.rowAt(g, p);
            if (row == null) {
                return store.rowFault(g, p);
            }
            if (row.length > 0 && row.kind != as) {
                return KIND;
            }
            hand.become(as, v);
            for (int i = 0; i < row.length; i++) {
                if (as == FLOAT) {
                    row.real[i] = row.floatAt(i) + hand.floatAt(0);
                } else if (as == DOUBLE) {
                    row.real[i] = row.real[i] + hand.real[0];
                } else {
                    row.whole[i] = narrowed(as, row.whole[i] + hand.whole[0]);
                }
            }
            return row.length;
        }

        int markGreater(int g, int p, int as, long v, int q) {
            if (!isGrid(g) || as < INT || as > DOUBLE) {
                return BAD;
            }
            Row row = store.rowAt(g, p);
            if (row == null) {
                return store.rowFault(g, p);
            }
            if (!row.cellsReadAs(as)) {
                return KIND;
            }
            if (!store.hasPlace(g, q)) {
                return AFAR;
            }
            aside.begin(as, row.length);
            append(aside, 0, row, 0, row.length);
            hand.become(as, v);
            Row made = store.freshRow(BOOLEAN, row.length);
            int greater = 0;
            for (int i = 0; i < aside.length; i++) {
                if (aside.exceeds(i, hand, 0)) {
                    made.whole[i] = 1;
                    greater++;
                }
            }
            store.place(g, q, made);
            return greater;
        }

        int pickTrue(int g, int p, int q) {
            Row row = store.rowAt(g, p);
            if (row == null) {
                return store.rowFault(g, p);
            }
            Row marks = store.rowAt(g, q);
            if (marks == null) {
                return store.rowFault(g, q);
            }
            int picked = 0;
            for (int i = 0; i < row.length; i++) {
                if (!marks.hasCell(i)) {
                    return INDEX;
                }
                if (!readsAs(marks.kind, BOOLEAN)) {
                    return KIND;
                }
                picked += marks.whole[i] == 1 ? 1 : 0;
            }
            Row made = store.freshRow(row.kind, picked);
            int at = 0;
            for (int i = 0; i < row.length && at < picked; i++) {
                if (marks.whole[i] == 1) {
                    made.accept(at, row, i);
                    at++;
                }
            }
            store.place(g, p, made);
            return picked;
        }
    }

    /** Grids as a whole. */
    private static final class Wholes {
        final Store store;
        final Notes notes;

        Wholes(Store store, Notes notes) {
            this.store = store;
            this.notes = notes;
        }

        int flatten(int g, int h, int q) {
            if (!isGrid(g) || !isGrid(h)) {
                return BAD;
            }
            int fault = store.gridFault(g);
            if (fault == 0) {
                fault = store.placeFault(h, q);
            }
            if (fault < 0) {
                return fault;
            }
            int length = 0;
            int set = 0;
            for (int p = 0; p < store.places[g]; p++) {
                Row row = store.rowAt(g, p);
                if (row != null) {
                    length += row.length;
                    set |= 1 << row.kind;
                }
            }
            if (length > CELLS) {
                return FULL;
            }
            Row made = store.freshRow(leastKind(set), length);
            int at = 0;
            for (int p = 0; p < store.places[g]; p++) {
                Row row = store.rowAt(g, p);
                if (row != null) {
                    Rows.append(made, at, row, 0, row.length);
                    at += row.length;
                }
            }
            store.place(h, q, made);
            return length;
        }

        int dealOut(int g, int p, int w, int h) {
            if (!isGrid(g) || !isGrid(h) || w < 1 || w > CELLS) {
                return BAD;
            }
            Row row = store.rowAt(g, p);
            if (row == null) {
                return store.rowFault(g, p);
            }
            int dealt = (row.length + w - 1) / w;
            if (dealt > PLACES) {
                return FULL;
            }
            store.startGrid(dealt);
            for (int k = 0; k < dealt; k++) {
                int length = Math.min(w, row.length - k * w);
                Rows.append(store.rowOfNewGrid(k, row.kind, length), 0, row, k * w, length);
            }
            return store.finishGrid(h);
        }

        int transpose(int g, int h) {
            if (!isGrid(g) || !isGrid(h)) {
                return BAD;
            }
            int fault = store.gridFault(g);
            if (fault < 0) {
                return fault;
            }
            int width = store.longestRow(g);
            if (width > PLACES) {
                return FULL;
            }
            store.startGrid(width);
            for (int j = 0; j < width; j++) {
                makeColumn(g, j);
            }
            return store.finishGrid(h);
        }

        void makeColumn(int g, int j) {
            int length = 0;
            int set = 0;
            for (int p = 0; p < store.places[g]; p++) {
                Row row = store.rowAt(g, p);
                if (row != null && row.hasCell(j)) {
                    length++;
                    set |= 1 << row.kind;
                }
            }
            Row column = store.rowOfNewGrid(j, leastKind(set), length);
            int at = 0;
            for (int p = 0; p < store.places[g]; p++) {
                Row row = store.rowAt(g, p);
                if (row != null && row.hasCell(j)) {
                    column.accept(at, row, j);
                    at++;
                }
            }
        }

        int multiply(int a, int b, int h) {
            if (!isGrid(a) || !isGrid(b) || !isGrid(h)) {
                return BAD;
            }
            if (store.places[a] < 0 || store.places[b] < 0) {
                return VOID;
            }
            int unreadable = store.firstUnreadable(a, LONG);
            if (unreadable == NONE && store.firstUnreadable(b, LONG) != NONE) {
                unreadable = 10 + store.firstUnreadable(b, LONG);
            }
            if (unreadable != NONE) {
                notes.first = unreadable;
                return KIND;
            }
            int width = store.longestRow(b);
            store.startGrid(store.places[a]);
            for (int p = 0; p < store.places[a]; p++) {
                Row row = store.rowAt(a, p);
                if (row != null) {
                    addProducts(store.rowOfNewGrid(p, LONG, width), row, b);
                }
            }
            return store.finishGrid(h);
        }

        void addProducts(Row made, Row row, int b) {
            for (int i = 0; i < row.length; i++) {
                Row factors = store.rowAt(b, i);
                if (factors != null) {
                    for (int j = 0; j < factors.length; j++) {
                        made.whole[j] += row.whole[i] * factors.whole[j];
                    }
                }
            }
        }
    }

    /** Cells combined to one number. */
    private static final class Sums {
        static final int PLACE = 0, COLUMN = 1, DIAGONAL = 2, ALL = 3;
        static final int SUM = 0, SMALLEST = 1, GREATEST = 2, XOR = 3, NOT_ZERO = 4;

        final Store store;
        final Notes notes;
        /** The result so far: whole for int and long, real for double. */
        long whole;
        double real;
        int notZero;
        int taken;

        Sums(Store store, Notes notes) {
            this.store = store;
            this.notes = notes;
        }

        static boolean isSummed(int as) {
            return as == INT || as == LONG || as == DOUBLE;
        }

        static boolean isFoldable(int way, int k, int op, int as) {
            boolean inRange = way >= PLACE && way <= ALL && k >= 0 && op >= SUM && op <= NOT_ZERO && isSummed(as);
            return inRange && (way != ALL || k == 0) && (op != XOR || as != DOUBLE);
        }

        static boolean isChosen(int way, int k, int p, int i) {
            switch (way) {
                case PLACE:
                    return p == k;
                case COLUMN:
                    return i == k;
                case DIAGONAL:
                    return p + i == k;
                default:
                    return true;
            }
        }

        void begin() {
            whole = 0;
            real = 0.0;
            notZero = 0;
            taken = 0;
        }

        int foldCells(int g, int way, int k, int op, int as) {
            if (!isGrid(g) || !isFoldable(way, k, op, as)) {
                return BAD;
            }
            int fault = way == PLACE ? store.placeFault(g, k) : store.gridFault(g);
            if (fault < 0) {
                return fault;
            }
            begin();
            int passed = 0;
            for (int p = 0; p < store.places[g]; p++) {
                int length = store.cellsAt(g, p);
                for (int i = 0; i < length; i++) {
                    if (isChosen(way, k, p, i)) {
                        passed += take(store.rowAt(g, p), i, op, as) ? 0 : 1;
                    }
                }
            }
            notes.told = op == NOT_ZERO ? notZero : as == DOUBLE ? codeOfReal(real) : whole;
            notes.passed = passed;
            return taken;
        }

        /** Combines a cell with the result so far; tells whether it can be read. */
        boolean take(Row row, int i, int op, int as) {
            if (row == null || !readsAs(row.kind, as)) {
                return false;
            }
            if (as == DOUBLE) {
                double x = row.doubleAt(i);
                real = taken == 0 ? x : combineReals(op, real, x);
                notZero += x != 0.0 ? 1 : 0;
            } else {
                long x = row.whole[i];
                whole = taken == 0 ? x : narrowed(as, combineWholes(op, whole, x));
                notZero += x != 0 ? 1 : 0;
            }
            taken++;
            return true;
        }

        static double combineReals(int op, double x, double y) {
            switch (op) {
                case SMALLEST:
                    return y < x ? y : x;
                case GREATEST:
                    return y > x ? y : x;
                default:
                    return x + y;
            }
        }

        static long combineWholes(int op, long x, long y) {
            switch (op) {
                case SMALLEST:
                    return Math.min(x, y);
                case GREATEST:
                    return Math.max(x, y);
                case XOR:
                    return x ^ y;
                default:
                    return x + y;
            }
        }

        int sumProducts(int g, int p, int h, int q, int as) {
            if (!isGrid(g) || !isGrid(h) || !isSummed(as)) {
                return BAD;
            }
            Row one = store.rowAt(g, p);
            if (one == null) {
                return store.rowFault(g, p);
            }
            Row other = store.rowAt(h, q);
            if (other == null) {
                return store.rowFault(h, q);
            }
            int products = Math.min(one.length, other.length);
            if (products > 0 && !(readsAs(one.kind, as) && readsAs(other.kind, as))) {
                return KIND;
            }
            begin();
            for (int i = 0; i < products; i++) {
                if (as == DOUBLE) {
                    real += one.doubleAt(i) * other.doubleAt(i);
                } else {
                    whole = narrowed(as, whole + one.whole[i] * other.whole[i]);
                }
            }
            notes.told = as == DOUBLE ? codeOfReal(real) : whole;
            return products;
        }
    }

    /** Paths, blocks and occurrences. */
    private static final class Searches {
        /** Below every sum of a path, which has six ints at most. */
        static final long NO_PATH = -(1L << 60);

        final Store store;
        final Notes notes;
        /** For each cell of a row the best sum of a path from there to the last row. */
        final long[] best = new long[CELLS];
        final long[] bestBelow = new long[CELLS];
        /** For each cell number its sum over the places of a block. */
        final long[] columns = new long[CELLS];
        long blockSum;
        int found;

        Searches(Store store, Notes notes) {
            this.store = store;
            this.notes = notes;
        }

        int bestTrail(int g) {
            int fault = store.gridFault(g);
            if (fault < 0) {
                return fault;
            }
            if (store.firstUnreadable(g, INT) != NONE) {
                return KIND;
            }
            if (hasEmptyRow(g)) {
                return NONE;
            }
            int passedRows = 0;
            int lengthBelow = 0;
            for (int p = store.places[g] - 1; p >= 0; p--) {
                Row row = store.rowAt(g, p);
                if (row != null) {
                    extendPaths(row, passedRows > 0, lengthBelow);
                    lengthBelow = row.length;
                    passedRows++;
                }
            }
            reportTrail(lengthBelow);
            return passedRows;
        }

        boolean hasEmptyRow(int g) {
            for (int p = 0; p < store.places[g]; p++) {
                Row row = store.rowAt(g, p);
                if (row != null && row.length == 0) {
                    return true;
                }
            }
            return false;
        }

        void extendPaths(Row row, boolean hasBelow, int lengthBelow) {
            System.arraycopy(best, 0, bestBelow, 0, CELLS);
            for (int i = 0; i < row.length; i++) {
                long below = hasBelow ? bestNear(i, lengthBelow) : 0;
                best[i] = below == NO_PATH ? NO_PATH : below + row.whole[i];
            }
        }

        long bestNear(int i, int lengthBelow) {
            long most = NO_PATH;
            for (int j = Math.max(0, i - 1); j <= i + 1 && j < lengthBelow; j++) {
                most = Math.max(most, bestBelow[j]);
            }
            return most;
        }

        void reportTrail(int length) {
            notes.told = 0;
            notes.first = NONE;
            for (int i = 0; i < length; i++) {
                if (notes.first == NONE || best[i] > notes.told) {
                    notes.told = best[i];
                    notes.first = i;
                }
            }
        }

        int bestBlock(int g) {
            int fault = store.gridFault(g);
            if (fault < 0) {
                return fault;
            }
            found = NONE;
            for (int p = 0; p < store.places[g]; p++) {
                for (int i = 0; i < CELLS; i++) {
                    tryBlocks(g, p, i);
                }
            }
            if (found != NONE) {
                notes.told = blockSum;
            }
            return found;
        }

        /** Tries all blocks with one first cell, in the order in which the earlier of two equal ones is wanted. */
        void tryBlocks(int g, int p, int i) {
            Arrays.fill(columns, 0L);
            int length = CELLS;
            for (int q = p; q < store.places[g]; q++) {
                Row row = store.rowAt(g, q);
                if (row == null || !readsAs(row.kind, INT)) {
                    return;
                }
                length = Math.min(length, row.length);
                long sum = 0;
                for (int j = i; j < length; j++) {
                    columns[j] += row.whole[j];
                    sum += columns[j];
                    if (found == NONE || sum > blockSum) {
                        found = 1000000 * p + 10000 * i + 100 * q + j;
                        blockSum = sum;
                    }
                }
            }
        }

        int findGrid(int a, int b, int n) {
            if (!isGrid(a) || !isGrid(b) || n < 0) {
                return BAD;
            }
            if (store.places[a] < 0 || store.places[b] < 0) {
                return VOID;
            }
            int times = 0;
            int where = NONE;
            for (int p = 0; p <= store.places[a] - store.places[b]; p++) {
                for (int i = 0; i < CELLS; i++) {
                    if (occursAt(a, b, p, i)) {
                        where = times == n ? 100 * p + i : where;
                        times++;
                    }
                }
            }
            if (where != NONE) {
                notes.told = times;
            }
            return where;
        }

        boolean occursAt(int a, int b, int p, int i) {
            for (int r = 0; r < store.places[b]; r++) {
                Row wanted = store.rowAt(b, r);
                if (wanted != null && !rowOccurs(wanted, store.rowAt(a, p + r), i)) {
                    return false;
                }
            }
            return true;
        }

        static boolean rowOccurs(Row wanted, Row row, int i) {
            for (int c = 0; c < wanted.length; c++) {
                if (row == null || !row.hasCell(i + c)) {
                    return false;
                }
                if (wanted.sorts[c] != NOTHING && !wanted.matches(c, row, i + c)) {
                    return false;
                }
            }
            return true;
        }
    }

    /** Regions of cells. */
    private static final class Regions {
        final Store store;
        final Notes notes;
        final Row hand = new Row(NONE);
        /** The cells of a region in the order in which they are reached, each as CELLS * place + cell. */
        final int[] reached = new int[PLACES * CELLS];
        int reachedCount;
        /** 1 for the cells of the regions found so far. */
        final int[] seen = new int[PLACES * CELLS];

        Regions(Store store, Notes notes) {
            this.store = store;
            this.notes = notes;
        }

        int regionOf(int g, int p, int i) {
            Row row = store.rowAt(g, p);
            if (row == null) {
                return store.rowFault(g, p);
            }
            if (!row.hasCell(i)) {
                return INDEX;
            }
            Arrays.fill(seen, 0);
            spread(g, p, i);
            int least = reached[0];
            for (int k = 1; k < reachedCount; k++) {
                least = Math.min(least, reached[k]);
            }
            notes.told = 100 * (least / CELLS) + least % CELLS;
            return reachedCount;
        }

        void spread(int g, int p, int i) {
            reachedCount = 0;
            reach(p, i);
            for (int k = 0; k < reached.length && k < reachedCount; k++) {
                int place = reached[k] / CELLS;
                int cell = reached[k] % CELLS;
                tryStep(g, reached[k], place, cell - 1);
                tryStep(g, reached[k], place, cell + 1);
                tryStep(g, reached[k], place - 1, cell);
                tryStep(g, reached[k], place + 1, cell);
            }
        }

        void reach(int p, int i) {
            seen[p * CELLS + i] = 1;
            reached[reachedCount] = p * CELLS + i;
            reachedCount++;
        }

        void tryStep(int g, int from, int p, int i) {
            Row row = store.rowAt(g, from / CELLS);
            Row other = store.rowAt(g, p);
            if (row == null || other == null || !other.hasCell(i) || seen[p * CELLS + i] == 1) {
                return;
            }
            if (row.matches(from % CELLS, other, i)) {
                reach(p, i);
            }
        }

        int countRegions(int g) {
            int fault = store.gridFault(g);
            if (fault < 0) {
                return fault;
            }
            Arrays.fill(seen, 0);
            int count = 0;
            int largest = 0;
            for (int p = 0; p < store.places[g]; p++) {
                int length = store.cellsAt(g, p);
                for (int i = 0; i < length; i++) {
                    if (seen[p * CELLS + i] == 0) {
                        spread(g, p, i);
                        count++;
                        largest = Math.max(largest, reachedCount);
                    }
                }
            }
            notes.told = largest;
            return count;
        }

        int paintRegion(int g, int p, int i, int sort, long v) {
            if (!isGrid(g) || !isSort(sort)) {
                return BAD;
            }
            Row row = store.rowAt(g, p);
            if (row == null) {
                return store.rowFault(g, p);
            }
            if (!row.hasCell(i)) {
                return INDEX;
            }
            Arrays.fill(seen, 0);
            spread(g, p, i);
            hand.become(sort, v);
            int painted = 0;
            for (int k = 0; k < reachedCount; k++) {
                Row other = store.rowAt(g, reached[k] / CELLS);
                painted += other != null && other.accept(reached[k] % CELLS, hand, 0) ? 1 : 0;
            }
            return painted;
        }
    }

    /** The words of a plan and how many numbers each of them needs. */
    private enum Step {
        ROW("row", 4), DROP("drop", 1), SWAP("swap", 4), SHARE("share", 4), CUT("cut", 5), CAST("cast", 3),
        JOIN("join", 3), FLIP("flip", 2), ROLL("roll", 3), ORDER("order", 2), ADD("add", 4), FLAT("flat", 3),
        DEAL("deal", 4), TURN("turn", 2);

        final String word;
        final int numbers;

        Step(String word, int numbers) {
            this.word = word;
            this.numbers = numbers;
        }
    }

    /** The text buffer, and the steps that were last found in it. */
    private static final class PlanText {
        final char[] letters = new char[LETTERS];
        int length = 0;
        /** For each step the index of its word among WORDS. */
        final int[] words = new int[STEPS];
        final int[] numbers = new int[STEPS * NUMBERS];

        int append(int letter) {
            if (letter < 0 || letter > 255) {
                return BAD;
            }
            if (length == LETTERS) {
                return FULL;
            }
            letters[length] = (char) letter;
            length++;
            return length;
        }

        int empty() {
            int had = length;
            length = 0;
            return had;
        }

        Step wordOf(int step) {
            return WORDS[words[step]];
        }

        int numberOf(int step, int k) {
            return numbers[step * NUMBERS + k];
        }

        /** Returns how many steps the text has, or TEXT_FAULT minus the error position. */
        int parse() {
            int steps = 0;
            int at = endOfSpaces(0);
            while (steps < STEPS && at < length) {
                int word = wordAt(at);
                if (word == NONE) {
                    return TEXT_FAULT - at;
                }
                words[steps] = word;
                at = endOfSpaces(endOfLetters(at));
                for (int k = 0; k < WORDS[word].numbers; k++) {
                    int end = endOfDigits(at);
                    if (end == at || end > at + 2) {
                        return TEXT_FAULT - at;
                    }
                    numbers[steps * NUMBERS + k] = numberIn(at, end);
                    at = endOfSpaces(end);
                }
                if (at == length || letters[at] != ';') {
                    return TEXT_FAULT - at;
                }
                at = endOfSpaces(at + 1);
                steps++;
            }
            return at == length ? steps : TEXT_FAULT - at;
        }

        /** The index among WORDS of the word that begins at a position, or NONE. */
        int wordAt(int at) {
            int size = endOfLetters(at) - at;
            for (int word = 0; word < WORDS.length; word++) {
                if (WORDS[word].word.length() == size && standsAt(WORDS[word].word, at)) {
                    return word;
                }
            }
            return NONE;
        }

        boolean standsAt(String word, int at) {
            for (int k = 0; k < word.length(); k++) {
                if (letters[at + k] != word.charAt(k)) {
                    return false;
                }
            }
            return true;
        }

        int numberIn(int at, int end) {
            int number = 0;
            for (int k = at; k < end; k++) {
                number = 10 * number + letters[k] - '0';
            }
            return number;
        }

        int endOfSpaces(int at) {
            return endOfRun(at, ' ', ' ');
        }

        int endOfLetters(int at) {
            return endOfRun(at, 'a', 'z');
        }

        int endOfDigits(int at) {
            return endOfRun(at, '0', '9');
        }

        int endOfRun(int at, char low, char high) {
            int end = at;
            while (end < length && letters[end] >= low && letters[end] <= high) {
                end++;
            }
            return end;
        }
    }

    /** Observations about a row of an unknown kind. */
    private static final class Guesses {
        final Notes notes;
        final int[] acts = new int[OBSERVATIONS];
        final int[] taken = new int[OBSERVATIONS];
        int observed = 0;

        Guesses(Notes notes) {
            this.notes = notes;
        }

        int observe(int act, int allowed) {
            if (!isAct(act) || allowed < 0 || allowed > 1) {
                return BAD;
            }
            if (observed == OBSERVATIONS) {
                return FULL;
            }
            acts[observed] = act;
            taken[observed] = allowed;
            observed++;
            return observed;
        }

        int removeAll() {
            int had = observed;
            observed = 0;
            return had;
        }

        int possibleKinds() {
            int set = 0;
            for (int kind = 0; kind < KINDS; kind++) {
                set |= isPossible(kind) ? 1 << kind : 0;
            }
            return set;
        }

        boolean isPossible(int kind) {
            for (int k = 0; k < observed; k++) {
                if (allows(acts[k], kind) != (taken[k] == 1)) {
                    return false;
                }
            }
            return true;
        }

        int bestAct() {
            int set = possibleKinds();
            int possible = Integer.bitCount(set);
            if (possible < 2) {
                return NONE;
            }
            int best = NONE;
            int size = KINDS + 1;
            for (int act = 0; act < ACTS; act++) {
                int allowing = kindsAllowing(act, set);
                int greater = Math.max(allowing, possible - allowing);
                if (greater < size) {
                    best = act;
                    size = greater;
                }
            }
            notes.told = size;
            return best;
        }

        static int kindsAllowing(int act, int set) {
            int allowing = 0;
            for (int kind = 0; kind < KINDS; kind++) {
                allowing += (set >> kind & 1) == 1 && allows(act, kind) ? 1 : 0;
            }
            return allowing;
        }
    }
}
