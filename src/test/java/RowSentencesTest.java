/** The sentences on SHEETS and places, and of promises 23 to 31, that name a boundary case, each for itself. */
public final class RowSentencesTest {
    private static final int MIN = Integer.MIN_VALUE, MAX = Integer.MAX_VALUE;

    public static void main(String[] args) {
        sheets();
        missingAtFirst();
        outside();
        outsideByTwoRows();
        sheetAllZero();
        sheetMissing();
        sheetSizes();
        putNarrowed();
        item();
        copyAsBefore();
        copyNone();
        lay();
        layAndTakeOfAnother();
        layNone();
        takeOthers();
        takeBad();
        takeBadLast();
        many();
        manyBroken();
        keep();
        keepStays();
        againNone();
        Due.end("RowSentencesTest");
    }

    /** A new object with a row 1, 2, .. of a sort in a SHEET. */
    private static PagesByLevels counted(int sheet, int sort, int n) {
        PagesByLevels x = new PagesByLevels();
        count(x, sheet, sort, n);
        return x;
    }

    private static void count(PagesByLevels x, int sheet, int sort, int n) {
        x.sheet(sheet, sort, n);
        for (int i = 0; i < n; i++) {
            x.put(sheet, i, i + 1);
        }
    }

    private static void isRow(String what, PagesByLevels x, int sheet, int sort, int... want) {
        StringBuilder is = new StringBuilder();
        StringBuilder due = new StringBuilder();
        for (int i = 0; i < want.length; i++) {
            is.append(x.item(sheet, sort, i)).append(' ');
            due.append(want[i]).append(' ');
        }
        Due.same(what, is.toString(), due.toString());
        Due.due(what + ": its end", x.item(sheet, sort, want.length), -12);
    }

    private static void sheets() {
        Due.sentence("SHEETS 0 to 3: rows of 0 bytes, 1 ints, 2 longs, 40 at most, or missing (at first).");
        for (int sort = 0; sort < 3; sort++) {
            PagesByLevels x = new PagesByLevels();
            for (int sheet = 0; sheet < 4; sheet++) {
                Due.due("40 of " + sort, x.sheet(sheet, sort, 40), 1);
                Due.due("41 of " + sort, x.sheet(sheet, sort, 41), -1);
                Due.due("the last place", x.put(sheet, 39, 100 + sheet), 1);
                Due.due("one behind it", x.put(sheet, 40, 1), -12);
            }
            for (int sheet = 0; sheet < 4; sheet++) {
                Due.due("each has its own", x.item(sheet, sort, 39), 100 + sheet);
                Due.due("one behind it", x.item(sheet, sort, 40), -12);
            }
            Due.due("SHEET -1", x.sheet(-1, sort, 1), -1);
            Due.due("SHEET 4", x.sheet(4, sort, 1), -1);
        }
        Due.due("sort 3", new PagesByLevels().sheet(0, 3, 1), -1);
        Due.due("sort -2", new PagesByLevels().sheet(0, -2, 1), -1);
    }

    private static void missingAtFirst() {
        Due.sentence("or missing (at first).");
        PagesByLevels x = Due.told("0;");
        for (int sheet = 0; sheet < 4; sheet++) {
            for (int sort = 0; sort < 3; sort++) {
                Due.due("item", x.item(sheet, sort, 0), -11);
            }
            Due.due("put", x.put(sheet, 0, 0), -11);
            Due.due("copy", x.copy(sheet, 0, 3 - sheet, 0, 0), -11);
            Due.due("lay", x.lay(0, 0, sheet, 0), -11);
            Due.due("take", x.take(sheet, 0, 0, 0), -11);
        }
    }

    private static void outside() {
        Due.sentence("n places of a row from i on are outside if n or i is below 0, or both together are more than it has.");
        for (int size : new int[] {0, 1, 5, 40}) {
            for (int i = -2; i <= size + 2; i++) {
                PagesByLevels x = counted(1, 1, size);
                boolean in = i >= 0 && i < size;
                Due.due("put at " + i + " of " + size, x.put(1, i, 7), in ? 1 : -12);
                Due.due("item at " + i + " of " + size, x.item(1, 1, i), in ? 7 : -12);
                for (int n : new int[] {-1, 0, 1, size - 1, size, size + 1}) {
                    boolean fits = n >= 0 && i >= 0 && i + n <= size;
                    Due.due(n + " from " + i + " on of " + size, x.copy(1, i, 1, i, n), fits ? n : -12);
                }
            }
        }
        PagesByLevels x = counted(1, 1, 5);
        int[][] wrapped = {{MAX, 1}, {1, MAX}, {MAX, MAX}, {MIN, 1}, {1, MIN}, {MIN, MIN}, {MIN, MAX}, {MAX, MIN}, {MAX, 2},
            {MAX - 4, 5}, {0, MAX}, {MAX, 0}, {0, MIN}, {MIN, 0}, {5, MAX - 4}, {1 << 30, 1 << 30}, {-1, 2}, {-1, 1}, {2, -1}};
        for (int[] w : wrapped) {
            Due.due(w[1] + " from " + w[0] + " on", x.copy(1, w[0], 1, 0, w[1]), -12);
            Due.due(w[1] + " to " + w[0], x.copy(1, 0, 1, w[0], w[1]), -12);
            Due.due(w[1] + " from and to " + w[0], x.copy(1, w[0], 1, w[0], w[1]), -12);
        }
        for (int i : new int[] {MIN, MIN + 1, MAX, MAX - 1, -1, 1 << 30}) {
            Due.due("put at " + i, x.put(1, i, 9), -12);
            Due.due("item at " + i, x.item(1, 1, i), -12);
        }
        isRow("nothing is changed", x, 1, 1, 1, 2, 3, 4, 5);
    }

    private static void outsideByTwoRows() {
        Due.sentence("-11: either; -13: of unlike sorts; -12: either.");
        PagesByLevels x = counted(0, 0, 5);
        x.sheet(1, 0, 3);
        x.sheet(2, 2, 5);
        Due.due("the first is too short", x.copy(1, 0, 0, 0, 4), -12);
        Due.due("the second is too short", x.copy(0, 0, 1, 0, 4), -12);
        Due.due("both are long enough", x.copy(0, 2, 1, 0, 3), 3);
        isRow("what came", x, 1, 0, 3, 4, 5);
        Due.due("from one on in the second", x.copy(0, 0, 1, 1, 3), -12);
        Due.due("from one on in the first", x.copy(1, 1, 0, 0, 3), -12);
        Due.due("the first is missing", x.copy(3, 0, 0, 0, 0), -11);
        Due.due("the second is missing", x.copy(0, 0, 3, 0, 0), -11);
        Due.due("both are missing", x.copy(3, 0, 3, 0, 0), -11);
        Due.due("bytes and longs", x.copy(0, 0, 2, 0, 0), -13);
        Due.due("longs and bytes", x.copy(2, 0, 0, 0, 0), -13);
        isRow("nothing else is changed", x, 0, 0, 1, 2, 3, 4, 5);
    }

    private static void sheetAllZero() {
        Due.sentence("A SHEET becomes a row of n of a sort, all 0");
        for (int sort = 0; sort < 3; sort++) {
            for (int before = 0; before < 3; before++) {
                PagesByLevels x = counted(2, before, 4);
                Due.due("anew", x.sheet(2, sort, 5), 1);
                isRow("all 0", x, 2, sort, 0, 0, 0, 0, 0);
                x.put(2, 4, 9);
                Due.due("shorter", x.sheet(2, sort, 2), 1);
                isRow("all 0", x, 2, sort, 0, 0);
                Due.due("longer again", x.sheet(2, sort, 5), 1);
                isRow("all 0", x, 2, sort, 0, 0, 0, 0, 0);
                Due.due("none", x.sheet(2, sort, 0), 1);
                isRow("no place", x, 2, sort);
            }
        }
    }

    private static void sheetMissing() {
        Due.sentence("or is missing (sort -1, whatever n): 1.");
        for (int n : new int[] {0, 1, 40, 41, -1, MIN, MAX}) {
            PagesByLevels x = counted(3, 1, 2);
            Due.due("n " + n, x.sheet(3, -1, n), 1);
            Due.due("it is missing", x.item(3, 1, 0), -11);
            Due.due("it is missing", x.put(3, 0, 1), -11);
            Due.due("missing again", x.sheet(3, -1, n), 1);
        }
    }

    private static void sheetSizes() {
        Due.sentence("BAD: sheet, sort, n above 40; -14.");
        PagesByLevels x = counted(0, 0, 3);
        int[][] bad = {{-1, 0, 1}, {4, 0, 1}, {MIN, 0, 1}, {MAX, 0, 1}, {0, -2, 1}, {0, 3, 1}, {0, MIN, 1}, {0, MAX, 1},
            {0, 0, 41}, {0, 0, MAX}, {4, 0, -1}, {0, 3, -1}, {4, -1, 0}};
        for (int[] b : bad) {
            Due.due("sheet " + b[0] + ", " + b[1] + ", " + b[2], x.sheet(b[0], b[1], b[2]), -1);
        }
        Due.due("n -1", x.sheet(0, 0, -1), -14);
        Due.due("n far below", x.sheet(0, 2, MIN), -14);
        isRow("nothing is changed", x, 0, 0, 1, 2, 3);
        Due.due("n 0", x.sheet(0, 0, 0), 1);
        Due.due("n 40", x.sheet(0, 0, 40), 1);
    }

    private static void putNarrowed() {
        Due.sentence("Place i of a row becomes v (narrowed to its sort): 1.");
        long[] all = {0, 1, -1, 127, 128, -128, -129, 255, 256, 257, MAX, MIN, MAX + 1L, MIN - 1L, 1L << 31, 1L << 32,
            (1L << 32) - 1, (1L << 32) + 1, Long.MAX_VALUE, Long.MIN_VALUE, 0x123456789ABCDEF0L, -0x123456789ABCDEF0L};
        for (long v : all) {
            PagesByLevels x = new PagesByLevels();
            for (int sort = 0; sort < 3; sort++) {
                x.sheet(sort, sort, 3);
                Due.due("put of " + v, x.put(sort, 1, v), 1);
            }
            isRow(v + " in bytes", x, 0, 0, 0, (byte) v, 0);
            isRow(v + " in ints", x, 1, 1, 0, (int) v, 0);
            isRow(v + " in longs", x, 2, 2, 0, (int) v, 0);
        }
        Due.sentence("BAD; -11; -12.");
        PagesByLevels x = counted(0, 0, 1);
        Due.due("no SHEET", x.put(4, 0, 1), -1);
        Due.due("missing", x.put(1, 5, 1), -11);
        Due.due("outside", x.put(0, 1, 1), -12);
    }

    private static void item() {
        Due.sentence("Place i of a row taken for one of a sort (of longs the lowest 32 bits).");
        for (int sort = 0; sort < 3; sort++) {
            for (int as = 0; as < 3; as++) {
                PagesByLevels x = counted(1, sort, 2);
                Due.due("a row of " + sort + " as one of " + as, x.item(1, as, 1), as == sort ? 2 : -13);
                Due.due("outside of it", x.item(1, as, 2), as == sort ? -12 : -13);
            }
        }
        PagesByLevels x = counted(1, 2, 1);
        x.put(1, 0, 0x7FFFFFFF80000000L);
        Due.due("of longs the lowest 32 bits", x.item(1, 2, 0), MIN);
        x.put(1, 0, 0xFFFFFFFF00000000L);
        Due.due("of longs the lowest 32 bits", x.item(1, 2, 0), 0);
        Due.sentence("BAD: sheet, sort; -11; -13; -12.");
        Due.due("no SHEET", x.item(4, 2, 0), -1);
        Due.due("no sort", x.item(1, 3, 0), -1);
        Due.due("no sort: -1 is none here", x.item(1, -1, 0), -1);
        Due.due("missing, and sort -1", x.item(0, -1, 0), -1);
        Due.due("missing", x.item(0, 2, 9), -11);
        Due.due("of another sort", x.item(1, 1, 9), -13);
        Due.due("outside", x.item(1, 2, 1), -12);
    }

    private static void copyAsBefore() {
        Due.sentence("n places of a row from i on come to another one (or the same) from j on, as they all were before: n.");
        for (int sort = 0; sort < 3; sort++) {
            PagesByLevels x = counted(1, sort, 6);
            Due.due("ahead by one", x.copy(1, 0, 1, 1, 5), 5);
            isRow("ahead by one", x, 1, sort, 1, 1, 2, 3, 4, 5);
            x = counted(1, sort, 6);
            Due.due("back by one", x.copy(1, 1, 1, 0, 5), 5);
            isRow("back by one", x, 1, sort, 2, 3, 4, 5, 6, 6);
            x = counted(1, sort, 6);
            Due.due("ahead by two", x.copy(1, 1, 1, 3, 3), 3);
            isRow("ahead by two", x, 1, sort, 1, 2, 3, 2, 3, 4);
            Due.due("all where they are", x.copy(1, 0, 1, 0, 6), 6);
            isRow("all where they are", x, 1, sort, 1, 2, 3, 2, 3, 4);
            count(x, 0, sort, 2);
            Due.due("to another one", x.copy(1, 4, 0, 0, 2), 2);
            isRow("to another one", x, 0, sort, 3, 4);
            isRow("the first one stays", x, 1, sort, 1, 2, 3, 2, 3, 4);
        }
        PagesByLevels x = counted(0, 2, 40);
        count(x, 3, 2, 40);
        Due.due("all forty", x.copy(0, 0, 3, 0, 40), 40);
        Due.due("39 ahead by one", x.copy(0, 0, 0, 1, 39), 39);
        Due.due("the last one", x.item(0, 2, 39), 39);
    }

    private static void copyNone() {
        Due.sentence("as they all were before: n.");
        PagesByLevels x = counted(0, 1, 3);
        x.sheet(1, 1, 0);
        Due.due("none", x.copy(0, 1, 0, 2, 0), 0);
        Due.due("none at the end", x.copy(0, 3, 0, 3, 0), 0);
        Due.due("none beyond the end", x.copy(0, 4, 0, 0, 0), -12);
        Due.due("none, to beyond the end", x.copy(0, 0, 0, 4, 0), -12);
        Due.due("none of a row of none", x.copy(1, 0, 0, 3, 0), 0);
        Due.due("one of a row of none", x.copy(1, 0, 0, 0, 1), -12);
        Due.due("-1", x.copy(0, 1, 0, 1, -1), -12);
        isRow("nothing is changed", x, 0, 1, 1, 2, 3);
    }

    private static void lay() {
        Due.sentence("EDGE of a CELL (0 where there may be no ENTRY), an ENTRY for each CELL, comes to a row of bytes or ints "
            + "from place i on: how many.");
        for (int sort = 0; sort < 2; sort++) {
            PagesByLevels x = Due.told("0;0@5;1:-9*0;0;2;1@9:9*3;");
            count(x, 1, sort, 8);
            Due.due("from 1 on", x.lay(0, 2, 1, 1), 6);
            isRow("from 1 on", x, 1, sort, 1, -9, 0, 0, 0, 0, 0, 8);
            count(x, 1, sort, 8);
            Due.due("up to the end", x.lay(0, 5, 1, 2), 6);
            isRow("up to the end", x, 1, sort, 1, 2, 0, 0, 0, 9, 0, 0);
            Due.due("one too far", x.lay(0, 5, 1, 3), -12);
            Due.due("from -1 on", x.lay(0, 5, 1, -1), -12);
            count(x, 1, sort, 8);
            Due.due("where there is no ENTRY", x.lay(0, 0, 1, 0), 6);
            isRow("where there is no ENTRY", x, 1, sort, 0, 0, 0, 0, 0, 0, 7, 8);
            x.sheet(1, sort, 5);
            Due.due("a row that is too short", x.lay(0, 0, 1, 0), -12);
            x.sheet(1, sort, 0);
            Due.due("a row of none", x.lay(0, 0, 1, 0), -12);
        }
        PagesByLevels x = Due.told(Scene.TEXTS[2]);
        x.sheet(0, 1, 12);
        Due.due("twelve", x.lay(0, 11, 0, 0), 12);
        isRow("twelve", x, 0, 1, -9, 0, 0, 0, 0, 0, 0, 0, 0, 0, 9, 0);
    }

    /** What the latest TEXT told another COMPLEX must not be seen. */
    private static void layAndTakeOfAnother() {
        Due.sentence("an ENTRY for each CELL");
        PagesByLevels x = Due.told("0;0;0;1:3*1,4*2;");
        Due.text(x, 1, "0;1:-0;");
        x.sheet(0, 0, 4);
        Due.due("of four", x.lay(0, 3, 0, 0), 4);
        isRow("of four", x, 0, 0, 0, 3, 4, 0);
        Due.due("of two", x.lay(1, 1, 0, 2), 2);
        isRow("of two", x, 0, 0, 0, 3, -1, 0);
        x.put(0, 0, 9);
        Due.due("to four", x.take(0, 0, 0, 3), 2);
        Due.same("to four", Due.shape(x, 0), "0@0 0:0,0,0,0,;0@0 0:0,0,0,0,;0@0 0:0,0,0,0,;1@0 0:9,3,-1,0,;");
        Due.due("to two", x.take(0, 2, 1, 1), 0);
        x.put(0, 3, 1);
        Due.due("the last of four may not be", x.take(0, 0, 0, 3), -1);
        Due.due("to two", x.take(0, 1, 1, 1), -1);
        x.put(0, 2, 0);
        Due.due("to two", x.take(0, 1, 1, 1), 1);
        Due.due("to two", x.entryOf(1, 1, 0), 13);
    }

    private static void layNone() {
        Due.sentence("comes to a row of bytes or ints from place i on: how many. BAD; -11; -13; -12.");
        PagesByLevels x = Due.told("0;1:0;");
        x.sheet(0, 2, 8);
        x.sheet(1, 1, 8);
        Due.due("no CELL", x.lay(0, 2, 3, 0), -1);
        Due.due("no CELLS at all", x.lay(1, 0, 1, 0), -1);
        Due.due("missing", x.lay(0, 1, 3, 99), -11);
        Due.due("longs", x.lay(0, 1, 0, 99), -13);
        for (int i : new int[] {7, 8, -1, MIN, MAX, MAX - 1}) {
            Due.due("from " + i + " on", x.lay(0, 1, 1, i), -12);
        }
        isRow("nothing is changed", x, 1, 1, 0, 0, 0, 0, 0, 0, 0, 0);
    }

    private static void takeOthers() {
        Due.sentence("EDGE of a CELL becomes what a row of bytes or ints tells from place i on, an ENTRY for each CELL: how "
            + "many ENTRIES are others then.");
        for (int sort = 0; sort < 2; sort++) {
            PagesByLevels x = Due.told("0;0;0;1:0,2*1;");
            x.sheet(2, sort, 7);
            x.put(2, 0, 99);
            x.put(2, 1, 1);
            x.put(2, 2, 2);
            x.put(2, 5, 99);
            Due.due("as they are", x.take(2, 1, 0, 3), 0);
            x.put(2, 1, -9);
            Due.due("one other", x.take(2, 1, 0, 3), 1);
            x.put(2, 2, 9);
            x.put(2, 3, 9);
            Due.due("two others", x.take(2, 1, 0, 3), 2);
            Due.due("the first", x.entryOf(0, 3, 0), 1);
            Due.due("the second", x.entryOf(0, 3, 1), 19);
            Due.due("the third", x.entryOf(0, 3, 2), 19);
            x.put(2, 5, 0);
            x.put(2, 3, 0);
            Due.due("up to the end", x.take(2, 3, 0, 3), 3);
            Due.due("none is left", x.of(0, 3, 3), 0);
            Due.due("all 0 where there may be none", x.take(2, 3, 0, 0), 0);
            Due.due("one too far", x.take(2, 4, 0, 3), -12);
        }
        PagesByLevels x = Due.told(Scene.TEXTS[2]);
        x.sheet(0, 1, 40);
        for (int i = 0; i < 11; i++) {
            x.put(0, 28 + i, i - 9);
        }
        Due.due("eleven ENTRIES: all but the first and that of CELL 9", x.take(0, 28, 0, 11), 9);
        Due.due("the last", x.entryOf(0, 11, 10), 11);
        Due.due("it is laid as it was taken", x.lay(0, 11, 0, 0), 12);
        Due.due("the first", x.item(0, 1, 0), -9);
    }

    private static void takeBad() {
        Due.sentence("BAD: one that may not be (one that is not 0 where there may be none, too).");
        for (int sort = 0; sort < 2; sort++) {
            for (int v = -12; v <= 12; v++) {
                PagesByLevels x = Due.told("0@1;0;1:7*1;");
                x.sheet(0, sort, 3);
                x.put(0, 1, v);
                boolean may = v >= -9 && v <= 9;
                Due.due("take of " + v, x.take(0, 0, 0, 2), !may ? -1 : v == 7 ? 0 : 1);
                Due.due("ENTRY then", x.entryOf(0, 2, 1), may ? 10 + v : 17);
                for (int place : new int[] {0, 2}) {
                    x = Due.told("0@1;0;1:7*1;");
                    x.sheet(0, sort, 3);
                    x.put(0, place, v);
                    Due.due("take of " + v + " where there may be none", x.take(0, 0, 0, 2), v == 0 ? 1 : -1);
                    Due.due("ENTRY then", x.entryOf(0, 2, 1), v == 0 ? 10 : 17);
                }
            }
        }
        PagesByLevels x = Due.told("0;1:7*0;");
        x.sheet(0, 0, 2);
        x.sheet(1, 1, 2);
        for (int v : new int[] {-128, 127}) {
            x.put(0, 0, v);
            Due.due("take of " + v + " from bytes", x.take(0, 0, 0, 1), -1);
        }
        for (int v : new int[] {MIN, MAX, 256, -256, 1 << 16, MIN + 1, MAX - 1}) {
            x.put(1, 0, v);
            Due.due("take of " + v + " from ints", x.take(1, 0, 0, 1), -1);
        }
        x.put(0, 0, 256 + 5);
        Due.due("take of what was narrowed to 5", x.take(0, 0, 0, 1), 1);
        x.put(1, 0, (1L << 32) - 4);
        Due.due("take of what was narrowed to -4", x.take(1, 0, 0, 1), 1);
        Due.due("ENTRY then", x.entryOf(0, 1, 0), 6);
    }

    private static void takeBadLast() {
        Due.sentence("BAD: complex, cell, sheet; -11; -13; -12; BAD: one that may not be");
        PagesByLevels x = Due.told("0;0;1:7*1;");
        count(x, 0, 0, 3);
        count(x, 1, 2, 9);
        x.put(1, 2, 99);
        Due.due("the last one may not be: none is taken", x.take(0, 0, 0, 2), -1);
        Due.due("the first ENTRY stays", x.entryOf(0, 2, 0), 10);
        Due.due("the second ENTRY stays", x.entryOf(0, 2, 1), 17);
        Due.due("outside", x.take(0, 1, 0, 2), -12);
        Due.due("longs", x.take(1, 0, 0, 2), -13);
        Due.due("longs, outside", x.take(1, 8, 0, 2), -13);
        Due.due("missing", x.take(3, 8, 0, 2), -11);
        Due.due("no SHEET", x.take(4, 8, 0, 2), -1);
        Due.due("no COMPLEX", x.take(3, 8, 4, 2), -1);
        Due.due("no CELL", x.take(3, 8, 0, 3), -1);
        for (int i : new int[] {-1, 1, MIN, MAX, MAX - 2}) {
            Due.due("from " + i + " on", x.take(0, i, 0, 2), -12);
        }
    }

    private static void many() {
        Due.sentence("0 CELLS of all COMPLEXES together, 1 those that have CELLS, as a set, 2 those that are BROKEN, as a set, "
            + "3 bytes of THE TAPE.");
        for (int set = 0; set < 16; set++) {
            for (int each = 1; each <= 12; each += 11) {
                PagesByLevels x = new PagesByLevels();
                for (int i = 0; i < 4 * each; i++) {
                    if ((set >> i / each & 1) == 1) {
                        x.cell(i / each, 0, 0, 0);
                    }
                }
                Due.due("CELLS", x.many(0), each * Integer.bitCount(set));
                Due.due("those that have CELLS", x.many(1), set);
                Due.due("none is BROKEN", x.many(2), 0);
            }
        }
        PagesByLevels x = new PagesByLevels();
        for (int i = 0; i < 48; i++) {
            x.cell(i / 12, 0, 0, 0);
        }
        Due.due("48 CELLS", x.many(0), 48);
        Due.due("what 4", x.many(4), -1);
        Due.due("what -1", x.many(-1), -1);
        Due.feed(x, " ".repeat(200));
        Due.due("200 bytes", x.many(3), 200);
        x.text(0);
        Due.due("no bytes", x.many(3), 0);
    }

    private static void manyBroken() {
        Due.sentence("2 those that are BROKEN, as a set");
        for (int set = 0; set < 16; set++) {
            PagesByLevels x = new PagesByLevels();
            for (int c = 0; c < 4; c++) {
                Due.text(x, c, (set >> c & 1) == 1 ? Scene.TEXTS[1] : Scene.TEXTS[0]);
            }
            Due.due("those that are BROKEN", x.many(2), set);
            Due.due("all have CELLS", x.many(1), 15);
        }
    }

    private static void keep() {
        Due.sentence("All COMPLEXES are kept: 1.");
        PagesByLevels x = new PagesByLevels();
        for (int c = 0; c < 4; c++) {
            Due.text(x, c, Scene.TEXTS[c]);
        }
        String[] was = new String[4];
        for (int c : new int[] {0, 1, 3}) {
            was[c] = Due.shape(x, c);
        }
        Due.due("keep", x.keep(), 1);
        x.clear(0);
        x.entry(1, 1, 0, 9);
        x.clear(2);
        x.cell(3, 0, 0, 0);
        Due.due("CELLS of all together", x.again(), 24);
        for (int c : new int[] {0, 1, 3}) {
            Due.same("COMPLEX " + c, Due.shape(x, c), was[c]);
        }
        Due.due("COMPLEX 2", x.entryOf(2, 11, 0), 1);
        Due.due("COMPLEX 2", x.of(2, 11, 3), 2);
        x = new PagesByLevels();
        Due.due("none of them has CELLS", x.keep(), 1);
        Due.text(x, 2, Scene.TEXTS[2]);
        Due.due("none has any then", x.again(), 0);
        Due.due("none has any then", x.many(1), 0);
    }

    private static void keepStays() {
        Due.sentence("They become what was kept latest (which stays): CELLS of all together.");
        PagesByLevels x = Due.told("0;1:5*0;");
        x.keep();
        for (int round = 0; round < 3; round++) {
            x.entry(0, 1, 0, round);
            x.cell(0, 4, 0, 0);
            x.cell(1, 4, 0, 0);
            Due.due("again and again", x.again(), 2);
            Due.same("what was kept", Due.shape(x, 0), "0@0 0:0,0,;1@0 0:5,0,;");
            Due.due("no more", x.many(1), 1);
        }
        x.clear(0);
        Due.text(x, 3, "0;0;0;");
        x.keep();
        Due.text(x, 3, "0;");
        Due.due("the latest", x.again(), 3);
        Due.due("that alone", x.many(1), 8);
        Due.due("the latest, which is there", x.again(), 3);
    }

    private static void againNone() {
        Due.sentence("NONE: nothing is kept.");
        PagesByLevels x = Due.told(Scene.TEXTS[0]);
        String was = Due.shape(x, 0);
        Due.due("nothing is kept", x.again(), -3);
        Due.same("nothing is changed", Due.shape(x, 0), was);
        Due.due("nothing is kept", x.again(), -3);
        x.keep();
        Due.due("it is kept", x.again(), 6);
    }
}
