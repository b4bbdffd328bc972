/** Of each argument of each call: the least and the greatest that it may be, one beyond each, and far beyond. */
public final class ArgumentsTest {
    private static final int MIN = Integer.MIN_VALUE, MAX = Integer.MAX_VALUE;
    private static final int BAD = -1, FULL = -2, NONE = -3, OUTSIDE = -12;

    public static void main(String[] args) {
        cellsAndEntries();
        brokenAndTold();
        goesAndReduced();
        pageAndTurns();
        standsAndLeft();
        wholeNumbers();
        timesAndPart();
        wouldAndTrials();
        sheets();
        copy();
        layAndTake();
        many();
        Due.end("ArgumentsTest");
    }

    private static void cellsAndEntries() {
        Due.sentence("int clear(int complex)");
        Scene.ends("clear: complex", 0, 6, 3, 3, BAD, (x, v) -> x.clear(v));
        Due.sentence("int cell(int complex, int degree, int level, int other)");
        Scene.ends("cell: complex", 0, 6, 3, 3, BAD, (x, v) -> x.cell(v, 0, 0, 0));
        Scene.ends("cell: degree", 0, 6, 4, 6, BAD, (x, v) -> x.cell(0, v, 0, 0));
        Scene.ends("cell: level", 0, 6, 9, 6, BAD, (x, v) -> x.cell(0, 0, v, 0));
        Scene.ends("cell: other", 0, 6, 9, 6, BAD, (x, v) -> x.cell(0, 0, 0, v));
        Due.sentence("int entry(int complex, int x, int y, int v)");
        Scene.ends("entry: complex", 0, 11, 3, 16, BAD, (x, v) -> x.entry(v, 2, 1, 5));
        Scene.ends("entry: x", 0, 10, 2, 16, BAD, (x, v) -> x.entry(3, v, 1, 5));
        Scene.ends("entry: y", 0, 9, 5, 10, BAD, (x, v) -> x.entry(0, 2, v, 5));
        Scene.ends("entry: v", -9, 11, 9, 11, BAD, (x, v) -> x.entry(0, 2, 1, v));
        Due.sentence("int entryOf(int complex, int x, int y)");
        Scene.ends("entryOf: complex", 0, 11, 3, 16, BAD, (x, v) -> x.entryOf(v, 2, 1));
        Scene.ends("entryOf: x", 0, 10, 5, 10, BAD, (x, v) -> x.entryOf(0, v, 0));
        Scene.ends("entryOf: y", 0, 9, 5, 10, BAD, (x, v) -> x.entryOf(0, 2, v));
        Due.sentence("int of(int complex, int cell, int what)");
        Scene.ends("of: complex", 0, 2, 3, 4, BAD, (x, v) -> x.of(v, 2, 1));
        Scene.ends("of: cell", 0, 0, 5, 2, BAD, (x, v) -> x.of(0, v, 1));
        Scene.ends("of: what", 0, 0, 4, 2, BAD, (x, v) -> x.of(0, 0, v));
    }

    private static void brokenAndTold() {
        Due.sentence("int broken(int complex)");
        Scene.ends("broken: complex", 0, 0, 3, 0, BAD, (x, v) -> x.broken(v));
        Due.due("broken: complex 1", Scene.made().broken(1), 33);
        Due.sentence("int mend(int complex)");
        Scene.ends("mend: complex", 0, NONE, 3, NONE, BAD, (x, v) -> x.mend(v));
        Due.due("mend: complex 1", Scene.made().mend(1), 409);
        Due.sentence("int feed(long eight, int n)");
        Scene.ends("feed: n", 1, 6, 8, 13, BAD, (x, v) -> x.feed(-1L, v));
        Due.sentence("int text(int complex)");
        Scene.ends("text: complex", 0, -105, 3, -105, BAD, (x, v) -> x.text(v));
    }

    private static void goesAndReduced() {
        Due.sentence("int goes(int complex, int way, int p, int cell)");
        Scene.ends("goes: complex", 0, 1, 3, 1, BAD, (x, v) -> x.goes(v, 0, 5, 2));
        Scene.ends("goes: way", 0, 1, 1, 1, BAD, (x, v) -> x.goes(0, v, 5, 2));
        Scene.primes("goes: p", NONE, NONE, 1, 1, (x, v) -> x.goes(3, 0, v, 2));
        Scene.ends("goes: cell", 0, 3, 5, NONE, BAD, (x, v) -> x.goes(0, 0, 5, v));
        Due.sentence("int reduced(int complex, int way, int p, int x, int y)");
        Scene.ends("reduced: complex", 0, 1, 3, 1, BAD, (x, v) -> x.reduced(v, 0, 5, 2, 1));
        Scene.ends("reduced: way", 0, 4, 1, 4, BAD, (x, v) -> x.reduced(0, v, 5, 2, 0));
        Scene.primes("reduced: p", 1, 2, 4, 6, (x, v) -> x.reduced(0, 0, v, 2, 0));
        Scene.ends("reduced: x", 0, 0, 5, 0, BAD, (x, v) -> x.reduced(0, 0, 5, v, 0));
        Scene.ends("reduced: y", 0, 4, 5, 0, BAD, (x, v) -> x.reduced(0, 0, 5, 2, v));
    }

    private static void pageAndTurns() {
        Due.sentence("int page(int complex, int way, int p, int r, int level, int degree)");
        Scene.ends("page: complex", 0, 1, 3, 1, BAD, (x, v) -> x.page(v, 0, 5, 0, 0, 0));
        Scene.ends("page: way", 0, 2, 1, 0, BAD, (x, v) -> x.page(0, v, 5, 0, 2, 1));
        Scene.primes("page: p", 2, 2, 1, 1, (x, v) -> x.page(3, 0, v, 5, 4, 1));
        Scene.ends("page: r", 0, 2, 10, 0, BAD, (x, v) -> x.page(0, 0, 5, v, 2, 1));
        Scene.ends("page: level", 0, 0, 9, 1, BAD, (x, v) -> x.page(0, 0, 5, 0, v, 2));
        Scene.ends("page: level", 0, 1, 9, 0, BAD, (x, v) -> x.page(0, 0, 5, 0, v, 0));
        Scene.ends("page: degree", 0, 1, 4, 0, BAD, (x, v) -> x.page(0, 0, 5, 0, 0, v));
        Due.sentence("int turns(int complex, int way, int p, int r, int level, int degree)");
        Scene.ends("turns: complex", 0, 0, 3, 1, BAD, (x, v) -> x.turns(v, 0, 5, 4, 4, 1));
        Scene.ends("turns: way", 0, 1, 1, 0, BAD, (x, v) -> x.turns(0, v, 5, 1, 2, 1));
        Scene.primes("turns: p", 0, 0, 1, 1, (x, v) -> x.turns(3, 0, v, 4, 4, 1));
        Scene.ends("turns: r", 0, 0, 10, 0, BAD, (x, v) -> x.turns(0, 0, 5, v, 2, 1));
        Scene.ends("turns: level", 0, 0, 9, 0, BAD, (x, v) -> x.turns(0, 0, 5, 1, v, 1));
        Scene.ends("turns: degree", 0, 0, 4, 0, BAD, (x, v) -> x.turns(0, 0, 5, 1, 2, v));
    }

    private static void standsAndLeft() {
        Due.sentence("int stands(int complex, int way, int p)");
        Scene.ends("stands: complex", 0, 3, 3, 5, BAD, (x, v) -> x.stands(v, 0, 5));
        Scene.ends("stands: way", 0, 3, 1, 4, BAD, (x, v) -> x.stands(0, v, 5));
        Scene.primes("stands: p", 0, 0, 5, 5, (x, v) -> x.stands(3, 0, v));
        Due.sentence("int left(int complex, int p, int degree)");
        Scene.ends("left: complex", 0, 1, 3, 0, BAD, (x, v) -> x.left(v, 5, 0));
        Scene.primes("left: p", 1, 1, 0, 0, (x, v) -> x.left(3, v, 0));
        Scene.ends("left: degree", 0, 1, 4, 0, BAD, (x, v) -> x.left(0, 5, v));
    }

    private static void wholeNumbers() {
        Due.sentence("int whole(int complex, int degree, int i)");
        Scene.ends("whole: complex", 0, 1, 3, 0, BAD, (x, v) -> x.whole(v, 0, 0));
        Scene.ends("whole: degree", 0, 1, 4, 0, BAD, (x, v) -> x.whole(0, v, 0));
        Due.due("whole: i at its least", Scene.made().whole(0, 0, 0), 1);
        Due.due("whole: i 1", Scene.made().whole(3, 0, 1), 6);
        for (int i : new int[] {2, 13, MAX}) {
            Scene.refused("whole: i " + i, NONE, x -> x.whole(3, 0, i));
        }
        for (int i : new int[] {-1, MIN}) {
            Scene.refused("whole: i " + i, BAD, x -> x.whole(3, 0, i));
        }
        Due.sentence("int wholeAt(int complex, int way, int level, int degree, int i)");
        Scene.ends("wholeAt: complex", 0, 1, 3, 1, BAD, (x, v) -> x.wholeAt(v, 0, 0, 0, 0));
        Scene.ends("wholeAt: way", 0, 2, 1, 0, BAD, (x, v) -> x.wholeAt(0, v, 2, 1, 0));
        Scene.ends("wholeAt: level", 0, 0, 9, 1, BAD, (x, v) -> x.wholeAt(0, 0, v, 2, 0));
        Scene.ends("wholeAt: level", 0, 1, 9, 0, BAD, (x, v) -> x.wholeAt(0, 0, v, 0, 0));
        Scene.ends("wholeAt: degree", 0, 1, 4, 0, BAD, (x, v) -> x.wholeAt(0, 0, 0, v, 0));
        Due.due("wholeAt: i at its least", Scene.made().wholeAt(0, 0, 0, 0, 0), 1);
        for (int i : new int[] {1, 2, 13, MAX}) {
            Scene.refused("wholeAt: i " + i, NONE, x -> x.wholeAt(3, 1, 3, 0, i));
        }
        for (int i : new int[] {-1, MIN}) {
            Scene.refused("wholeAt: i " + i, BAD, x -> x.wholeAt(3, 0, 0, 0, i));
        }
    }

    private static void timesAndPart() {
        Due.sentence("int times(int complex, int other, int to)");
        Scene.ends("times: complex", 0, FULL, 3, 9, BAD, (x, v) -> x.times(v, 3, 1));
        Scene.ends("times: other", 0, FULL, 3, 9, BAD, (x, v) -> x.times(3, v, 1));
        Scene.ends("times: to", 0, 9, 3, 9, BAD, (x, v) -> x.times(3, 3, v));
        Due.sentence("int part(int complex, int way, int l, int to)");
        Scene.ends("part: complex", 0, 1, 3, 1, BAD, (x, v) -> x.part(v, 0, 0, 1));
        Scene.ends("part: way", 0, 2, 1, 1, BAD, (x, v) -> x.part(0, v, 1, 1));
        Scene.ends("part: l", 0, 1, 9, 6, BAD, (x, v) -> x.part(0, 0, v, 1));
        Scene.ends("part: to", 0, 6, 3, 6, BAD, (x, v) -> x.part(0, 0, 9, v));
    }

    private static void wouldAndTrials() {
        Due.sentence("int would(int complex, int x, int y, int v, int p, int degree)");
        Scene.ends("would: complex", 0, 1, 3, 0, BAD, (x, v) -> x.would(v, 2, 1, 1, 5, 0));
        Scene.ends("would: x", 0, 1, 2, 2, BAD, (x, v) -> x.would(3, v, 1, 0, 5, 1));
        Scene.ends("would: y", 0, 1, 5, 1, BAD, (x, v) -> x.would(0, 2, v, 0, 5, 0));
        Scene.ends("would: v", -9, 0, 9, 0, BAD, (x, v) -> x.would(3, 2, 1, v, 5, 0));
        Scene.primes("would: p", 1, 0, 0, 0, (x, v) -> x.would(3, 2, 1, 8, v, 0));
        Scene.ends("would: degree", 0, 1, 4, 0, BAD, (x, v) -> x.would(3, 2, 1, 0, 5, v));
        Due.sentence("int trials(int what)");
        Scene.ends("trials: what", 0, 10, 2, 1, BAD, (x, v) -> x.trials(v));
    }

    private static void sheets() {
        Due.sentence("int sheet(int sheet, int sort, int n)");
        Scene.ends("sheet: sheet", 0, 1, 3, 1, BAD, (x, v) -> x.sheet(v, 0, 1));
        Scene.ends("sheet: sort", -1, 1, 2, 1, BAD, (x, v) -> x.sheet(0, v, 1));
        Due.due("sheet: n at its least", Scene.made().sheet(0, 0, 0), 1);
        Due.due("sheet: n at its greatest", Scene.made().sheet(0, 0, 40), 1);
        Scene.refused("sheet: n 41", BAD, x -> x.sheet(0, 0, 41));
        Scene.refused("sheet: n far above", BAD, x -> x.sheet(0, 0, MAX));
        Scene.refused("sheet: n -1", -14, x -> x.sheet(0, 0, -1));
        Scene.refused("sheet: n far below", -14, x -> x.sheet(0, 0, MIN));
        Due.sentence("int put(int sheet, int i, long v)");
        Scene.ends("put: sheet", 0, 1, 3, 1, BAD, (x, v) -> x.put(v, 0, 0));
        Scene.ends("put: i", 0, 1, 7, 1, OUTSIDE, (x, v) -> x.put(0, v, 9));
        Due.sentence("int item(int sheet, int sort, int i)");
        Scene.ends("item: sheet", 0, 7, 3, -1, BAD, (x, v) -> x.item(v, v == 3 ? 1 : 0, 1));
        Scene.ends("item: sort", 0, 7, 2, -13, BAD, (x, v) -> x.item(0, v, 1));
        Scene.ends("item: i", 0, 0, 7, 0, OUTSIDE, (x, v) -> x.item(0, 0, v));
    }

    private static void copy() {
        Due.sentence("int copy(int sheet, int i, int other, int j, int n)");
        Scene.ends("copy: sheet", 0, -13, 3, 1, BAD, (x, v) -> x.copy(v, 0, 3, 0, 1));
        Scene.ends("copy: other", 0, -13, 3, 1, BAD, (x, v) -> x.copy(3, 0, v, 0, 1));
        Scene.ends("copy: i", 0, 1, 7, 1, OUTSIDE, (x, v) -> x.copy(0, v, 0, 0, 1));
        Scene.ends("copy: j", 0, 1, 7, 1, OUTSIDE, (x, v) -> x.copy(0, 0, 0, v, 1));
        Scene.ends("copy: n", 0, 0, 8, 8, OUTSIDE, (x, v) -> x.copy(0, 0, 0, 0, v));
    }

    private static void layAndTake() {
        Due.sentence("int lay(int complex, int cell, int sheet, int i)");
        Scene.ends("lay: complex", 0, 6, 3, 3, BAD, (x, v) -> x.lay(v, 2, 0, 0));
        Scene.ends("lay: cell", 0, 6, 5, 6, BAD, (x, v) -> x.lay(0, v, 0, 0));
        Scene.ends("lay: sheet", 0, 6, 3, 6, BAD, (x, v) -> x.lay(0, 2, v, 0));
        Scene.ends("lay: i", 0, 6, 2, 6, OUTSIDE, (x, v) -> x.lay(0, 2, 0, v));
        Due.sentence("int take(int sheet, int i, int complex, int cell)");
        Scene.ends("take: sheet", 0, 1, 3, 1, BAD, (x, v) -> x.take(v, 0, 3, 2));
        Scene.ends("take: i", 0, 1, 5, 1, OUTSIDE, (x, v) -> x.take(0, v, 3, 2));
        Scene.ends("take: complex", 0, 2, 3, 1, BAD, (x, v) -> x.take(0, 0, v, 2));
        Scene.ends("take: cell", 0, 0, 5, 0, BAD, (x, v) -> x.take(0, 2, 0, v));
    }

    private static void many() {
        Due.sentence("int many(int what)");
        Scene.ends("many: what", 0, 24, 3, 5, BAD, (x, v) -> x.many(v));
    }
}
