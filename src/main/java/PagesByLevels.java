import java.util.Arrays;

/** Complexes by levels, turned page by page: ../shared/DOC.md says what each call must do. */
public final class PagesByLevels {
    public static final int BAD = -1, FULL = -2, NONE = -3, STATE = -4;

    private static final int NOTHING = -11, OUTSIDE = -12, UNLIKE = -13, NEGATIVE = -14;

    private static final int COMPLEXES = 4, CELLS = 12;
    private static final int TOP_DEGREE = 4, TOP_LEVEL = 9, TOP_ENTRY = 9, TOP_PAGE = 10;
    private static final int TAPE_BYTES = 200;
    private static final int SHEETS = 4, PLACES = 40;
    private static final int MISSING = -1, BYTES = 0, INTS = 1, LONGS = 2;

    /** Answers carry 10 and an ENTRY, so that those below 0 stay apart from refusals. */
    private static final int ENTRY_SHIFT = 10;
    /** Stands for "CELLS of every LEVEL" where one LEVEL could be asked for. */
    private static final int EVERY_LEVEL = -1;
    private static final int NO_FAULT = -1, TAPE_END = -1;

    private final Complex[] complexes = new Complex[COMPLEXES];
    private final Complex[] kept = new Complex[COMPLEXES];
    /** What is made out of COMPLEXES is made here first: one of them may be the one it goes to. */
    private final Complex made = new Complex();
    private final Reduction reduction = new Reduction(made);
    private final WholeNumbers numbers = new WholeNumbers(made);
    private final Trials tried = new Trials();
    private final Tape tape = new Tape();
    private final Reader reader = new Reader(tape, made);
    private final Sheet[] sheets = new Sheet[SHEETS];
    private boolean anythingKept = false;

    public PagesByLevels() {
        for (int i = 0; i < COMPLEXES; i++) {
            complexes[i] = new Complex();
            kept[i] = new Complex();
        }
        for (int i = 0; i < SHEETS; i++) {
            sheets[i] = new Sheet();
        }
    }

    // ---- complexes

    public int clear(int complex) {
        Complex c = complexAt(complex);
        if (c == null) {
            return BAD;
        }
        int had = c.count;
        c.empty();
        return had;
    }

    public int cell(int complex, int degree, int level, int other) {
        Complex c = complexAt(complex);
        if (c == null || !isDegree(degree) || !isLevel(level) || !isLevel(other)) {
            return BAD;
        }
        return c.add(degree, level, other);
    }

    public int entry(int complex, int x, int y, int v) {
        Complex c = complexAt(complex);
        if (c == null || !c.mayHave(x, y) || !isEntry(v)) {
            return BAD;
        }
        int was = c.edge(x, y);
        c.setEdge(x, y, v);
        return ENTRY_SHIFT + was;
    }

    public int entryOf(int complex, int x, int y) {
        Complex c = complexAt(complex);
        if (c == null || !c.has(x) || !c.has(y)) {
            return BAD;
        }
        return ENTRY_SHIFT + c.edge(x, y);
    }

    public int of(int complex, int cell, int what) {
        Complex c = complexAt(complex);
        if (c == null || !c.has(cell)) {
            return BAD;
        }
        switch (what) {
            case 0:
                return c.degree(cell);
            case 1:
                return c.level(0, cell);
            case 2:
                return c.level(1, cell);
            case 3:
                return c.entriesIn(cell);
            case 4:
                return c.edgesWith(cell);
            default:
                return BAD;
        }
    }

    public int broken(int complex) {
        Complex c = complexAt(complex);
        return c == null ? BAD : c.firstBroken();
    }

    public int mend(int complex) {
        Complex c = complexAt(complex);
        if (c == null) {
            return BAD;
        }
        tried.startAnew();
        int found = c.firstBroken();
        for (int x = 0; x < c.count && found != 0; x++) {
            for (int y = 0; y < c.count; y++) {
                for (int v = -TOP_ENTRY; v <= TOP_ENTRY && c.mayHave(x, y); v++) {
                    tried.open(c, x, y, v);
                    found = c.stillBroken(found);
                    tried.close();
                    if (found == 0) {
                        return 400 * x + 20 * y + TOP_ENTRY + v;
                    }
                }
            }
        }
        return NONE;
    }

    public int feed(long eight, int n) {
        if (n < 1 || n > 8) {
            return BAD;
        }
        if (n > TAPE_BYTES - tape.length) {
            return FULL;
        }
        for (int i = 0; i < n; i++) {
            tape.add((byte) (eight >> (8 * i)));
        }
        return tape.length;
    }

    public int text(int complex) {
        Complex c = complexAt(complex);
        if (c == null) {
            return BAD;
        }
        int fault = reader.read();
        tape.length = 0;
        if (fault != NO_FAULT) {
            return -100 - fault;
        }
        c.become(made);
        return c.count;
    }

    // ---- reduced, pages

    public int goes(int complex, int way, int p, int cell) {
        Complex c = complexAt(complex);
        if (c == null || !isWay(way) || !isPrime(p) || !c.has(cell)) {
            return BAD;
        }
        if (c.isBroken()) {
            return STATE;
        }
        reduction.run(c, way, p);
        return reduction.partner(cell);
    }

    public int reduced(int complex, int way, int p, int x, int y) {
        Complex c = complexAt(complex);
        if (c == null || !isWay(way) || !isPrime(p) || !c.has(x) || !c.has(y)) {
            return BAD;
        }
        if (c.isBroken()) {
            return STATE;
        }
        reduction.run(c, way, p);
        return reduction.remainder(x, y);
    }

    public int page(int complex, int way, int p, int r, int level, int degree) {
        return ofPage(complex, way, p, r, level, degree, false);
    }

    public int turns(int complex, int way, int p, int r, int level, int degree) {
        return ofPage(complex, way, p, r, level, degree, true);
    }

    public int stands(int complex, int way, int p) {
        Complex c = complexAt(complex);
        if (c == null || !isWay(way) || !isPrime(p)) {
            return BAD;
        }
        if (c.isBroken()) {
            return STATE;
        }
        reduction.run(c, way, p);
        int least = 0;
        for (int x = 0; x < c.count; x++) {
            if (reduction.partner(x) != NONE) {
                least = Math.max(least, reduction.gap(x) + 1);
            }
        }
        return least;
    }

    public int left(int complex, int p, int degree) {
        Complex c = complexAt(complex);
        if (c == null || !isPrime(p) || !isDegree(degree)) {
            return BAD;
        }
        return c.isBroken() ? STATE : staying(c, p, degree);
    }

    public int whole(int complex, int degree, int i) {
        Complex c = complexAt(complex);
        if (c == null || !isDegree(degree) || i < 0) {
            return BAD;
        }
        return c.isBroken() ? STATE : inWholeNumbers(c, 0, EVERY_LEVEL, degree, i);
    }

    public int wholeAt(int complex, int way, int level, int degree, int i) {
        Complex c = complexAt(complex);
        if (c == null || !isWay(way) || !isLevel(level) || !isDegree(degree) || i < 0) {
            return BAD;
        }
        return c.isBroken() ? STATE : inWholeNumbers(c, way, level, degree, i);
    }

    // ---- made, tried

    public int times(int complex, int other, int to) {
        Complex first = complexAt(complex);
        Complex second = complexAt(other);
        Complex target = complexAt(to);
        if (first == null || second == null || target == null) {
            return BAD;
        }
        if (!first.canBeMultiplied(second)) {
            return FULL;
        }
        made.becomeProduct(first, second);
        target.become(made);
        return target.count;
    }

    public int part(int complex, int way, int l, int to) {
        Complex c = complexAt(complex);
        Complex target = complexAt(to);
        if (c == null || target == null || !isWay(way) || !isLevel(l)) {
            return BAD;
        }
        made.becomePart(c, way, l);
        target.become(made);
        return target.count;
    }

    public int would(int complex, int x, int y, int v, int p, int degree) {
        Complex c = complexAt(complex);
        if (c == null || !c.mayHave(x, y) || !isEntry(v) || !isPrime(p) || !isDegree(degree)) {
            return BAD;
        }
        tried.startAnew();
        tried.open(c, x, y, v);
        int answer = c.isBroken() ? STATE : staying(c, p, degree);
        tried.close();
        return answer;
    }

    public int trials(int what) {
        switch (what) {
            case 0:
                return tried.opened;
            case 1:
                return tried.closed;
            case 2:
                return tried.openAtMost;
            default:
                return BAD;
        }
    }

    // ---- rows, what is kept

    public int sheet(int sheet, int sort, int n) {
        Sheet s = sheetAt(sheet);
        if (s == null || (sort != MISSING && !isSort(sort))) {
            return BAD;
        }
        if (sort == MISSING) {
            s.become(MISSING, 0);
            return 1;
        }
        if (n > PLACES) {
            return BAD;
        }
        if (n < 0) {
            return NEGATIVE;
        }
        s.become(sort, n);
        return 1;
    }

    public int put(int sheet, int i, long v) {
        Sheet s = sheetAt(sheet);
        if (s == null) {
            return BAD;
        }
        if (s.sort == MISSING) {
            return NOTHING;
        }
        if (s.isOutside(i, 1)) {
            return OUTSIDE;
        }
        s.set(i, v);
        return 1;
    }

    public int item(int sheet, int sort, int i) {
        Sheet s = sheetAt(sheet);
        if (s == null || !isSort(sort)) {
            return BAD;
        }
        if (s.sort == MISSING) {
            return NOTHING;
        }
        if (s.sort != sort) {
            return UNLIKE;
        }
        return s.isOutside(i, 1) ? OUTSIDE : (int) s.get(i);
    }

    public int copy(int sheet, int i, int other, int j, int n) {
        Sheet from = sheetAt(sheet);
        Sheet to = sheetAt(other);
        if (from == null || to == null) {
            return BAD;
        }
        if (from.sort == MISSING || to.sort == MISSING) {
            return NOTHING;
        }
        if (from.sort != to.sort) {
            return UNLIKE;
        }
        if (from.isOutside(i, n) || to.isOutside(j, n)) {
            return OUTSIDE;
        }
        from.copyPlaces(i, to, j, n);
        return n;
    }

    public int lay(int complex, int cell, int sheet, int i) {
        Complex c = complexAt(complex);
        Sheet s = sheetAt(sheet);
        if (c == null || s == null || !c.has(cell)) {
            return BAD;
        }
        int refusal = refusalOfEdge(s, i, c.count);
        if (refusal != 0) {
            return refusal;
        }
        for (int y = 0; y < c.count; y++) {
            s.set(i + y, c.edge(cell, y));
        }
        return c.count;
    }

    public int take(int sheet, int i, int complex, int cell) {
        Complex c = complexAt(complex);
        Sheet s = sheetAt(sheet);
        if (c == null || s == null || !c.has(cell)) {
            return BAD;
        }
        int refusal = refusalOfEdge(s, i, c.count);
        if (refusal != 0) {
            return refusal;
        }
        // All of them are looked at before the first is put: a refused call changes nothing.
        for (int y = 0; y < c.count; y++) {
            long v = s.get(i + y);
            if (!isEntry(v) || (v != 0 && !c.mayHave(cell, y))) {
                return BAD;
            }
        }
        int others = 0;
        for (int y = 0; y < c.count; y++) {
            int v = (int) s.get(i + y);
            others += v == c.edge(cell, y) ? 0 : 1;
            c.setEdge(cell, y, v);
        }
        return others;
    }

    public int many(int what) {
        switch (what) {
            case 0:
                return cellsTogether();
            case 1:
                return setOfComplexes(false);
            case 2:
                return setOfComplexes(true);
            case 3:
                return tape.length;
            default:
                return BAD;
        }
    }

    public int keep() {
        for (int i = 0; i < COMPLEXES; i++) {
            kept[i].become(complexes[i]);
        }
        anythingKept = true;
        return 1;
    }

    public int again() {
        if (!anythingKept) {
            return NONE;
        }
        for (int i = 0; i < COMPLEXES; i++) {
            complexes[i].become(kept[i]);
        }
        return cellsTogether();
    }

    // ---- what several calls share

    private Complex complexAt(int i) {
        return i >= 0 && i < COMPLEXES ? complexes[i] : null;
    }

    private Sheet sheetAt(int i) {
        return i >= 0 && i < SHEETS ? sheets[i] : null;
    }

    private static boolean isDegree(int degree) {
        return degree >= 0 && degree <= TOP_DEGREE;
    }

    private static boolean isLevel(int level) {
        return level >= 0 && level <= TOP_LEVEL;
    }

    private static boolean isEntry(long v) {
        return v >= -TOP_ENTRY && v <= TOP_ENTRY;
    }

    private static boolean isWay(int way) {
        return way == 0 || way == 1;
    }

    private static boolean isPrime(int p) {
        return p == 2 || p == 3 || p == 5 || p == 7;
    }

    private static boolean isSort(int sort) {
        return sort == BYTES || sort == INTS || sort == LONGS;
    }

    private static int get(int[] row, int i) {
        return i >= 0 && i < row.length ? row[i] : 0;
    }

    private static void set(int[] row, int i, int v) {
        if (i >= 0 && i < row.length) {
            row[i] = v;
        }
    }

    private int ofPage(int complex, int way, int p, int r, int level, int degree, boolean turning) {
        Complex c = complexAt(complex);
        if (c == null || !isWay(way) || !isPrime(p) || r < 0 || r > TOP_PAGE || !isLevel(level) || !isDegree(degree)) {
            return BAD;
        }
        if (c.isBroken()) {
            return STATE;
        }
        reduction.run(c, way, p);
        int found = 0;
        for (int x = 0; x < c.count; x++) {
            if (c.level(way, x) == level && c.degree(x) == degree) {
                found += (turning ? reduction.turnsAt(x, r) : reduction.standsOn(x, r)) ? 1 : 0;
            }
        }
        return found;
    }

    /** How many CELLS of a DEGREE stay is the same by both WAYS. */
    private int staying(Complex c, int p, int degree) {
        reduction.run(c, 0, p);
        int found = 0;
        for (int x = 0; x < c.count; x++) {
            if (c.degree(x) == degree && reduction.partner(x) == NONE) {
                found++;
            }
        }
        return found;
    }

    private int inWholeNumbers(Complex c, int way, int level, int degree, int i) {
        numbers.choose(c, way, level);
        return i == 0 ? numbers.free(degree) : numbers.factor(degree, i);
    }

    /** Why an EDGE of n ENTRIES can't stand in a row from place i on, or 0. */
    private static int refusalOfEdge(Sheet s, int i, int n) {
        if (s.sort == MISSING) {
            return NOTHING;
        }
        if (s.sort == LONGS) {
            return UNLIKE;
        }
        return s.isOutside(i, n) ? OUTSIDE : 0;
    }

    private int cellsTogether() {
        int together = 0;
        for (int i = 0; i < COMPLEXES; i++) {
            together += complexes[i].count;
        }
        return together;
    }

    private int setOfComplexes(boolean brokenOnes) {
        int set = 0;
        for (int i = 0; i < COMPLEXES; i++) {
            if (brokenOnes ? complexes[i].isBroken() : complexes[i].count > 0) {
                set |= 1 << i;
            }
        }
        return set;
    }

    /** CELLS with their EDGES. Places beyond the last CELL hold nothing that is ever read. */
    private static final class Complex {
        int count = 0;
        final int[] degrees = new int[CELLS];
        final int[] levels = new int[CELLS];
        final int[] otherLevels = new int[CELLS];
        final int[] edges = new int[CELLS * CELLS];

        Complex() {
        }

        boolean has(int x) {
            return x >= 0 && x < count && count <= CELLS;
        }

        int degree(int x) {
            return has(x) ? degrees[x] : 0;
        }

        int level(int way, int x) {
            if (!has(x)) {
                return 0;
            }
            return way == 0 ? levels[x] : otherLevels[x];
        }

        int edge(int x, int y) {
            return has(x) && has(y) ? edges[x * CELLS + y] : 0;
        }

        void setEdge(int x, int y, int v) {
            if (has(x) && has(y)) {
                edges[x * CELLS + y] = v;
            }
        }

        boolean mayHave(int x, int y) {
            return has(x) && has(y) && degrees[y] == degrees[x] - 1
                && levels[y] <= levels[x] && otherLevels[y] <= otherLevels[x];
        }

        void empty() {
            count = 0;
        }

        /** The number of the new CELL, or FULL. */
        int add(int degree, int level, int other) {
            if (count < 0 || count >= CELLS) {
                return FULL;
            }
            int x = count;
            degrees[x] = degree;
            levels[x] = level;
            otherLevels[x] = other;
            count++;
            for (int y = 0; y <= x; y++) {
                setEdge(x, y, 0);
                setEdge(y, x, 0);
            }
            return x;
        }

        int entriesIn(int x) {
            int found = 0;
            for (int y = 0; y < count; y++) {
                found += edge(x, y) != 0 ? 1 : 0;
            }
            return found;
        }

        int edgesWith(int y) {
            int found = 0;
            for (int x = 0; x < count; x++) {
                found += edge(x, y) != 0 ? 1 : 0;
            }
            return found;
        }

        boolean isBroken() {
            return firstBroken() != 0;
        }

        /** 1 and 16 x and y of the first x and y for which it is BROKEN, or 0. */
        int firstBroken() {
            for (int x = 0; x < count; x++) {
                int degree = degree(x) - 2;
                for (int y = 0; y < count && degree >= 0; y++) {
                    if (degree(y) == degree && edgeOfEdge(x, y) != 0) {
                        return 1 + 16 * x + y;
                    }
                }
            }
            return 0;
        }

        /** What was found earlier, if that is so yet: it mostly is, and looking there alone is soon done. */
        int stillBroken(int earlier) {
            int pair = earlier - 1;
            return pair >= 0 && edgeOfEdge(pair / 16, pair % 16) != 0 ? earlier : firstBroken();
        }

        int edgeOfEdge(int x, int y) {
            if (!has(x) || !has(y)) {
                return 0;
            }
            int together = 0;
            for (int between = 0; between < count; between++) {
                int first = edges[x * CELLS + between];
                if (first != 0) {
                    together += first * edges[between * CELLS + y];
                }
            }
            return together;
        }

        void become(Complex from) {
            count = from.count;
            System.arraycopy(from.degrees, 0, degrees, 0, CELLS);
            System.arraycopy(from.levels, 0, levels, 0, CELLS);
            System.arraycopy(from.otherLevels, 0, otherLevels, 0, CELLS);
            System.arraycopy(from.edges, 0, edges, 0, CELLS * CELLS);
        }

        boolean canBeMultiplied(Complex second) {
            if (count * second.count > CELLS || topDegree() + second.topDegree() > TOP_DEGREE) {
                return false;
            }
            return topLevel(0) + second.topLevel(0) <= TOP_LEVEL && topLevel(1) + second.topLevel(1) <= TOP_LEVEL;
        }

        int topDegree() {
            int top = 0;
            for (int x = 0; x < count; x++) {
                top = Math.max(top, degree(x));
            }
            return top;
        }

        int topLevel(int way) {
            int top = 0;
            for (int x = 0; x < count; x++) {
                top = Math.max(top, level(way, x));
            }
            return top;
        }

        void becomeProduct(Complex first, Complex second) {
            empty();
            for (int x = 0; x < first.count; x++) {
                for (int y = 0; y < second.count; y++) {
                    add(first.degree(x) + second.degree(y), first.level(0, x) + second.level(0, y),
                        first.level(1, x) + second.level(1, y));
                }
            }
            for (int x = 0; x < first.count; x++) {
                for (int y = 0; y < second.count; y++) {
                    setProductEdge(first, second, x, y);
                }
            }
        }

        void setProductEdge(Complex first, Complex second, int x, int y) {
            int size = second.count;
            int product = x * size + y;
            int sign = first.degree(x) % 2 == 1 ? -1 : 1;
            for (int below = 0; below < first.count; below++) {
                setEdge(product, below * size + y, first.edge(x, below));
            }
            for (int below = 0; below < size; below++) {
                setEdge(product, x * size + below, sign * second.edge(y, below));
            }
        }

        void becomePart(Complex from, int way, int most) {
            empty();
            for (int x = 0; x < from.count; x++) {
                if (from.level(way, x) <= most) {
                    add(from.degree(x), from.level(0, x), from.level(1, x));
                }
            }
            int i = 0;
            for (int x = 0; x < from.count; x++) {
                if (from.level(way, x) <= most) {
                    setPartEdge(i, from, x, way, most);
                    i++;
                }
            }
        }

        void setPartEdge(int i, Complex from, int x, int way, int most) {
            int j = 0;
            for (int y = 0; y < from.count; y++) {
                if (from.level(way, y) <= most) {
                    setEdge(i, j, from.edge(x, y));
                    j++;
                }
            }
        }
    }

    /** What the CELLS of a COMPLEX that is not BROKEN are REDUCED to, by a WAY and a prime. */
    private static final class Reduction {
        Complex complex;
        int way = 0;
        int prime = 2;
        final int[] order = new int[CELLS];
        final int[] remainders = new int[CELLS * CELLS];
        /** The last CELL in what a CELL is REDUCED to, or NONE. */
        final int[] lasts = new int[CELLS];
        /** The CELL that has this one last in what it is REDUCED to, or NONE. */
        final int[] owners = new int[CELLS];

        Reduction(Complex c) {
            complex = c;
        }

        void run(Complex c, int byWay, int p) {
            complex = c;
            way = byWay;
            prime = p;
            Arrays.fill(owners, NONE);
            putInOrder();
            for (int place = 0; place < c.count; place++) {
                reduce(get(order, place));
            }
        }

        void putInOrder() {
            for (int x = 0; x < complex.count; x++) {
                int place = x;
                while (place > 0 && standsBefore(x, get(order, place - 1))) {
                    set(order, place, get(order, place - 1));
                    place--;
                }
                set(order, place, x);
            }
        }

        boolean standsBefore(int x, int y) {
            int levels = Integer.compare(complex.level(way, x), complex.level(way, y));
            if (levels != 0) {
                return levels < 0;
            }
            int degrees = Integer.compare(complex.degree(x), complex.degree(y));
            return degrees != 0 ? degrees < 0 : x < y;
        }

        void reduce(int x) {
            for (int y = 0; y < complex.count; y++) {
                set(remainders, x * CELLS + y, leaves(complex.edge(x, y)));
            }
            int last = lastOf(x);
            // Each round takes the last one away, so that there are no more rounds than CELLS.
            for (int round = 0; round < CELLS && last != NONE && get(owners, last) != NONE; round++) {
                takeAway(x, get(owners, last), last);
                last = lastOf(x);
            }
            set(lasts, x, last);
            if (last != NONE) {
                set(owners, last, x);
            }
        }

        int lastOf(int x) {
            for (int place = complex.count - 1; place >= 0; place--) {
                int y = get(order, place);
                if (remainder(x, y) != 0) {
                    return y;
                }
            }
            return NONE;
        }

        void takeAway(int x, int owner, int last) {
            int often = 0;
            while (often < prime && leaves(remainder(x, last) - often * remainder(owner, last)) != 0) {
                often++;
            }
            for (int y = 0; y < complex.count; y++) {
                set(remainders, x * CELLS + y, leaves(remainder(x, y) - often * remainder(owner, y)));
            }
        }

        int leaves(int v) {
            return prime > 0 ? Math.floorMod(v, prime) : 0;
        }

        int remainder(int x, int y) {
            return get(remainders, x * CELLS + y);
        }

        /** The CELL that a CELL goes with, or NONE. */
        int partner(int x) {
            int last = get(lasts, x);
            return last != NONE ? last : get(owners, x);
        }

        int gap(int x) {
            return Math.abs(complex.level(way, x) - complex.level(way, partner(x)));
        }

        boolean standsOn(int x, int r) {
            return partner(x) == NONE || gap(x) >= r;
        }

        boolean turnsAt(int x, int r) {
            return get(lasts, x) != NONE && gap(x) == r;
        }
    }

    /**
     * FREE ones and FACTORS of the CELLS chosen. They are told by the greatest common divisors of
     * the determinants of all square parts of each size: these never grow beyond an int, which
     * numbers turned into one another by rows and columns might.
     */
    private static final class WholeNumbers {
        Complex complex;
        int way = 0;
        int level = EVERY_LEVEL;
        final int[] rows = new int[CELLS];
        final int[] columns = new int[CELLS];
        int rowCount = 0;
        int columnCount = 0;
        /** By the set of rows (higher bits) and that of columns; both together are no more than CELLS. */
        final int[] determinants = new int[1 << CELLS];
        final int[] divisors = new int[CELLS + 1];
        int rank = 0;

        WholeNumbers(Complex c) {
            complex = c;
        }

        void choose(Complex c, int byWay, int atLevel) {
            complex = c;
            way = byWay;
            level = atLevel;
        }

        int free(int degree) {
            findDivisors(degree);
            int bound = rank;
            int cells = rowCount;
            findDivisors(degree + 1);
            return cells - bound - rank;
        }

        /** The i-th FACTOR, or NONE. */
        int factor(int degree, int i) {
            findDivisors(degree + 1);
            int ones = 0;
            while (ones < rank && quotient(ones + 1) == 1) {
                ones++;
            }
            return i > rank - ones ? NONE : quotient(ones + i);
        }

        int quotient(int size) {
            int below = get(divisors, size - 1);
            return below == 0 ? 0 : get(divisors, size) / below;
        }

        /** Of the EDGES of CELLS of a DEGREE. */
        void findDivisors(int degree) {
            rowCount = gather(rows, degree);
            columnCount = gather(columns, degree - 1);
            Arrays.fill(divisors, 0);
            set(divisors, 0, 1);
            set(determinants, 0, 1);
            for (int ofRows = 1; ofRows < 1 << rowCount; ofRows++) {
                int size = Integer.bitCount(ofRows);
                for (int ofColumns = 1; ofColumns < 1 << columnCount; ofColumns++) {
                    if (Integer.bitCount(ofColumns) == size) {
                        int determinant = determinant(ofRows, ofColumns);
                        set(determinants, (ofRows << columnCount) | ofColumns, determinant);
                        set(divisors, size, greatestDivisor(get(divisors, size), Math.abs(determinant)));
                    }
                }
            }
            rank = 0;
            while (rank < CELLS && get(divisors, rank + 1) != 0) {
                rank++;
            }
        }

        int gather(int[] row, int degree) {
            int found = 0;
            for (int x = 0; x < complex.count; x++) {
                if (complex.degree(x) == degree && (level == EVERY_LEVEL || complex.level(way, x) == level)) {
                    set(row, found, x);
                    found++;
                }
            }
            return found;
        }

        /** By the lowest row, out of the determinants of the rows above it, which were found before. */
        int determinant(int ofRows, int ofColumns) {
            int others = ofRows & (ofRows - 1);
            int x = get(rows, Integer.bitCount((ofRows ^ others) - 1));
            int rest = others << columnCount;
            int together = 0;
            int sign = 1;
            for (int column = 0; column < columnCount; column++) {
                int bit = 1 << column;
                if ((ofColumns & bit) != 0) {
                    int v = complex.edge(x, get(columns, column));
                    together += sign * v * get(determinants, rest | (ofColumns ^ bit));
                    sign = -sign;
                }
            }
            return together;
        }

        static int greatestDivisor(int a, int b) {
            int of = a;
            int by = b;
            // Ints of this size are told in fewer than fifty rounds.
            for (int round = 0; round < 100 && by != 0; round++) {
                int left = of % by;
                of = by;
                by = left;
            }
            return of;
        }
    }

    /** What is tried in a COMPLEX and put back, and how often that was done. */
    private static final class Trials {
        int opened = 0;
        int closed = 0;
        int openAtMost = 0;
        Complex complex = null;
        int x = 0;
        int y = 0;
        int was = 0;

        Trials() {
        }

        void startAnew() {
            opened = 0;
            closed = 0;
            openAtMost = 0;
        }

        void open(Complex c, int ofX, int ofY, int v) {
            complex = c;
            x = ofX;
            y = ofY;
            was = c.edge(x, y);
            opened++;
            openAtMost = Math.max(openAtMost, opened - closed);
            c.setEdge(x, y, v);
        }

        void close() {
            if (complex != null) {
                complex.setEdge(x, y, was);
                complex = null;
                closed++;
            }
        }
    }

    private static final class Tape {
        int length = 0;
        final byte[] bytes = new byte[TAPE_BYTES];

        Tape() {
        }

        void add(byte b) {
            if (length >= 0 && length < TAPE_BYTES) {
                bytes[length] = b;
                length++;
            }
        }

        int at(int place) {
            return place >= 0 && place < length && place < TAPE_BYTES ? bytes[place] & 255 : TAPE_END;
        }
    }

    /** Reads a TEXT; what reads a part of it tells whether it could, and keeps the FAULT if not. */
    private static final class Reader {
        final Tape tape;
        final Complex complex;
        int place = 0;
        int fault = NO_FAULT;
        /** The latest N, and the place of its first byte. */
        int number = 0;
        int numberPlace = 0;
        /** For which CELLS an ENTRY was told in the EDGE that is being read, as a set. */
        int told = 0;

        Reader(Tape from, Complex into) {
            tape = from;
            complex = into;
        }

        /** The FAULT, or NO_FAULT: then the COMPLEX is what the TEXT tells. */
        int read() {
            place = 0;
            complex.empty();
            for (int cells = 0; cells < CELLS && !isAtEnd(); cells++) {
                if (!readsHead() || (passes(':') && !readsEntries())) {
                    return fault;
                }
                if (!passes(';')) {
                    return place;
                }
            }
            return isAtEnd() ? NO_FAULT : place;
        }

        boolean isAtEnd() {
            skipBlanks();
            return tape.at(place) == TAPE_END;
        }

        void skipBlanks() {
            while (place < tape.length && tape.at(place) == ' ') {
                place++;
            }
        }

        boolean fails(int at) {
            fault = at;
            return false;
        }

        boolean passes(char sign) {
            skipBlanks();
            boolean there = tape.at(place) == sign;
            place += there ? 1 : 0;
            return there;
        }

        boolean isAtDigit() {
            int b = tape.at(place);
            return b >= '0' && b <= '9';
        }

        boolean readsNumber(int most) {
            skipBlanks();
            numberPlace = place;
            number = 0;
            while (place < tape.length && isAtDigit()) {
                number = Math.min(1000, number * 10 + tape.at(place) - '0');
                place++;
            }
            int digits = place - numberPlace;
            if (digits == 0) {
                return fails(place);
            }
            return (digits <= 2 && number <= most) || fails(numberPlace);
        }

        boolean readsHead() {
            if (!readsNumber(TOP_DEGREE)) {
                return false;
            }
            int degree = number;
            int level = 0;
            int other = 0;
            if (passes('@')) {
                if (!readsNumber(TOP_LEVEL)) {
                    return false;
                }
                level = number;
                skipBlanks();
                if (isAtDigit() && !readsNumber(TOP_LEVEL)) {
                    return false;
                }
                other = number;
            }
            complex.add(degree, level, other);
            return true;
        }

        boolean readsEntries() {
            told = 0;
            boolean more = true;
            // Each turn reads a byte at least.
            for (int turn = 0; turn < TAPE_BYTES && more; turn++) {
                if (!readsEntry()) {
                    return false;
                }
                more = passes(',');
            }
            return true;
        }

        boolean readsEntry() {
            int sign = passes('-') ? -1 : 1;
            if (!readsNumber(99)) {
                return false;
            }
            int often = 1;
            if (passes('*')) {
                often = number;
                if (often > TOP_ENTRY) {
                    return fails(numberPlace);
                }
                if (!readsNumber(99)) {
                    return false;
                }
            } else if (number <= TOP_ENTRY && isAtEnd()) {
                // A * may come yet: whether this N is a CELL's number is not told.
                return fails(place);
            }
            int x = complex.count - 1;
            if (!complex.mayHave(x, number) || (told >> number & 1) != 0) {
                return fails(numberPlace);
            }
            told |= 1 << number;
            complex.setEdge(x, number, sign * often);
            return true;
        }
    }

    /** A row of bytes, ints or longs; each place is kept as a long that its sort can hold. */
    private static final class Sheet {
        int sort = MISSING;
        int size = 0;
        final long[] places = new long[PLACES];

        Sheet() {
        }

        void become(int newSort, int newSize) {
            sort = newSort;
            size = newSize;
            Arrays.fill(places, 0L);
        }

        boolean isOutside(int i, int n) {
            return n < 0 || i < 0 || n > size - i;
        }

        long get(int i) {
            return i >= 0 && i < size && i < PLACES ? places[i] : 0;
        }

        void set(int i, long v) {
            if (i >= 0 && i < size && i < PLACES) {
                places[i] = sort == BYTES ? (byte) v : sort == INTS ? (int) v : v;
            }
        }

        void copyPlaces(int i, Sheet to, int j, int n) {
            if (!isOutside(i, n) && !to.isOutside(j, n) && size <= PLACES && to.size <= PLACES) {
                System.arraycopy(places, i, to.places, j, n);
            }
        }
    }
}
