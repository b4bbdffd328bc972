/** Promises 23 to 31. */
public final class RowsTest {
    private static final int MIN = Integer.MIN_VALUE, MAX = Integer.MAX_VALUE;

    public static void main(String[] args) {
        sheet();
        put();
        item();
        copy();
        copyRefused();
        lay();
        take();
        takeRefused();
        many();
        keepAndAgain();
        Due.end("RowsTest");
    }

    private static void sheet() {
        PagesByLevels x = new PagesByLevels();
        for (int sheet : new int[] {-1, 4, MIN, MAX}) {
            Due.due("sheet that is not", x.sheet(sheet, 0, 1), -1);
            Due.due("sheet that is not, missing", x.sheet(sheet, -1, 1), -1);
        }
        for (int sort : new int[] {-2, 3, MIN, MAX}) {
            Due.due("sort that is not", x.sheet(0, sort, 1), -1);
            Due.due("BAD ahead of -14", x.sheet(0, sort, -1), -1);
        }
        Due.due("41", x.sheet(0, 0, 41), -1);
        Due.due("MAX", x.sheet(0, 2, MAX), -1);
        Due.due("-1", x.sheet(0, 0, -1), -14);
        Due.due("MIN", x.sheet(0, 1, MIN), -14);
        Due.due("it is missing yet", x.item(0, 0, 0), -11);
        Due.due("0", x.sheet(0, 0, 0), 1);
        Due.due("it is there, with no place", x.item(0, 0, 0), -12);
        for (int sort = 0; sort < 3; sort++) {
            Due.due("40", x.sheet(sort, sort, 40), 1);
            Due.due("all 0", x.item(sort, sort, 39), 0);
            Due.due("the last place", x.put(sort, 39, 1), 1);
            Due.due("refused", x.sheet(sort, sort, 41), -1);
            Due.due("refused", x.sheet(sort, sort, -5), -14);
            Due.due("it stays", x.item(sort, sort, 39), 1);
            Due.due("anew", x.sheet(sort, sort, 40), 1);
            Due.due("all 0 again", x.item(sort, sort, 39), 0);
        }
        Due.due("missing, whatever n", x.sheet(0, -1, 41), 1);
        Due.due("it is missing", x.item(0, 0, 0), -11);
        Due.due("missing, whatever n", x.sheet(1, -1, -1), 1);
        Due.due("missing, whatever n", x.sheet(1, -1, MIN), 1);
        Due.due("it is missing", x.put(1, 0, 0), -11);
        Due.due("the third is there", x.item(2, 2, 0), 0);
    }

    private static void put() {
        PagesByLevels x = new PagesByLevels();
        x.sheet(0, 0, 3);
        x.sheet(1, 1, 3);
        x.sheet(2, 2, 3);
        long v = 0x123456789ABCDEF0L;
        for (int sheet = 0; sheet < 3; sheet++) {
            Due.due("put", x.put(sheet, 2, v), 1);
            Due.due("put at -1", x.put(sheet, -1, v), -12);
            Due.due("put at 3", x.put(sheet, 3, v), -12);
            Due.due("put at MAX", x.put(sheet, MAX, v), -12);
            Due.due("put at MIN", x.put(sheet, MIN, v), -12);
            Due.due("its neighbour", x.item(sheet, sheet, 1), 0);
        }
        Due.due("narrowed to a byte", x.item(0, 0, 2), (byte) v);
        Due.due("narrowed to an int", x.item(1, 1, 2), (int) v);
        Due.due("a long: its lowest 32 bits", x.item(2, 2, 2), (int) v);
        x.put(0, 0, 128);
        Due.due("128 as a byte", x.item(0, 0, 0), -128);
        x.put(1, 0, 1L << 31);
        Due.due("1 << 31 as an int", x.item(1, 1, 0), MIN);
        x.put(2, 0, 1L << 32);
        Due.due("1 << 32 as a long", x.item(2, 2, 0), 0);
        Due.due("put on a missing one", x.put(3, 0, v), -11);
        Due.due("-11 ahead of -12", x.put(3, -1, v), -11);
        Due.due("put on none", x.put(4, 0, v), -1);
        Due.due("put on none", x.put(-1, -1, v), -1);
    }

    private static void item() {
        PagesByLevels x = new PagesByLevels();
        x.sheet(0, 0, 2);
        Due.due("item", x.item(0, 0, 1), 0);
        for (int i : new int[] {-1, 2, MIN, MAX}) {
            Due.due("item outside", x.item(0, 0, i), -12);
            Due.due("-13 ahead of -12", x.item(0, 1, i), -13);
            Due.due("-11 ahead of -13", x.item(1, 1, i), -11);
        }
        for (int sort : new int[] {-1, 3, MIN, MAX}) {
            Due.due("item of no sort", x.item(0, sort, 0), -1);
            Due.due("BAD ahead of -11", x.item(1, sort, 0), -1);
        }
        for (int sheet : new int[] {-1, 4, MIN, MAX}) {
            Due.due("item of none", x.item(sheet, 0, 0), -1);
        }
        Due.due("of another sort", x.item(0, 2, 0), -13);
    }

    private static void fill(PagesByLevels x, int sheet, int n) {
        for (int i = 0; i < n; i++) {
            x.put(sheet, i, i + 1);
        }
    }

    private static void row(String what, PagesByLevels x, int sheet, int sort, int... want) {
        for (int i = 0; i < want.length; i++) {
            Due.due(what + ": place " + i, x.item(sheet, sort, i), want[i]);
        }
        Due.due(what + ": its end", x.item(sheet, sort, want.length), -12);
    }

    private static void copy() {
        for (int sort = 0; sort < 3; sort++) {
            PagesByLevels x = new PagesByLevels();
            x.sheet(0, sort, 5);
            fill(x, 0, 5);
            Due.due("copy ahead", x.copy(0, 0, 0, 1, 4), 4);
            row("copied ahead", x, 0, sort, 1, 1, 2, 3, 4);
            fill(x, 0, 5);
            Due.due("copy back", x.copy(0, 1, 0, 0, 4), 4);
            row("copied back", x, 0, sort, 2, 3, 4, 5, 5);
            x.sheet(1, sort, 3);
            Due.due("copy to another", x.copy(0, 2, 1, 1, 2), 2);
            row("copied to another", x, 1, sort, 0, 4, 5);
            Due.due("copy of none", x.copy(0, 5, 1, 3, 0), 0);
            Due.due("copy of none", x.copy(0, 0, 0, 0, 0), 0);
            Due.due("all", x.copy(1, 0, 1, 0, 3), 3);
            row("as it was", x, 1, sort, 0, 4, 5);
        }
        PagesByLevels x = new PagesByLevels();
        x.sheet(0, 2, 1);
        x.sheet(1, 2, 1);
        x.put(0, 0, -1L);
        x.copy(0, 0, 1, 0, 1);
        Due.due("a long that is below 0", x.item(1, 2, 0), -1);
    }

    private static void copyRefused() {
        PagesByLevels x = new PagesByLevels();
        x.sheet(0, 0, 5);
        x.sheet(1, 0, 3);
        x.sheet(2, 1, 5);
        int[][] outside = {{-1, 0, 1}, {0, -1, 1}, {0, 0, -1}, {5, 0, 1}, {6, 0, 0}, {0, 4, 0}, {0, 3, 1}, {0, 0, 4},
            {2, 0, 4}, {MAX, 0, 1}, {1, 0, MAX}, {0, 1, MAX}, {0, MAX, 2}, {MIN, 0, 1}, {0, MIN, 1}, {0, 0, MIN},
            {MAX, MAX, MAX}, {MIN, MIN, MIN}};
        for (int[] o : outside) {
            Due.due("copy outside", x.copy(0, o[0], 1, o[1], o[2]), -12);
            Due.due("-13 ahead of -12", x.copy(0, o[0], 2, o[1], o[2]), -13);
            Due.due("-11 ahead of -12", x.copy(0, o[0], 3, o[1], o[2]), -11);
        }
        Due.due("the other way: too many", x.copy(1, 0, 0, 0, 4), -12);
        Due.due("-11: the first", x.copy(3, 0, 0, 0, 1), -11);
        Due.due("-11: the second", x.copy(0, 0, 3, 0, 1), -11);
        Due.due("-13: ints and bytes", x.copy(2, 0, 0, 0, 0), -13);
        for (int sheet : new int[] {-1, 4, MIN, MAX}) {
            Due.due("BAD: the first", x.copy(sheet, 0, 3, 0, 1), -1);
            Due.due("BAD: the second", x.copy(3, 0, sheet, 0, 1), -1);
        }
    }

    private static void lay() {
        PagesByLevels x = Due.told("0;0@3;1@1:-9*0;1@4:7*0,8*1;");
        x.sheet(0, 0, 6);
        x.sheet(1, 1, 4);
        x.sheet(2, 2, 40);
        fill(x, 0, 6);
        Due.due("lay to bytes", x.lay(0, 2, 0, 1), 4);
        row("laid to bytes", x, 0, 0, 1, -9, 0, 0, 0, 6);
        fill(x, 1, 4);
        Due.due("lay to ints", x.lay(0, 3, 1, 0), 4);
        row("laid to ints", x, 1, 1, 7, 8, 0, 0);
        Due.due("lay of no ENTRY", x.lay(0, 0, 1, 0), 4);
        row("laid none", x, 1, 1, 0, 0, 0, 0);
        for (int i : new int[] {-1, 1, MIN, MAX}) {
            Due.due("lay outside", x.lay(0, 2, 1, i), -12);
            Due.due("lay to longs", x.lay(0, 2, 2, i), -13);
            Due.due("lay to nothing", x.lay(0, 2, 3, i), -11);
        }
        for (int v : new int[] {-1, 4, MIN, MAX}) {
            Due.due("lay of no COMPLEX", x.lay(v, 0, 3, 0), -1);
            Due.due("lay of no CELL", x.lay(0, v, 3, 0), -1);
            Due.due("lay to no SHEET", x.lay(0, 0, v, 0), -1);
        }
        Due.due("lay of no CELL", x.lay(1, 0, 0, 0), -1);
        row("nothing is changed", x, 1, 1, 0, 0, 0, 0);
    }

    private static void take() {
        PagesByLevels x = Due.told("0;0;0@3;1@1:-9*0;2@1:3;");
        x.sheet(0, 0, 9);
        x.put(0, 3, -9);
        x.put(0, 4, 9);
        Due.due("take from bytes: one other", x.take(0, 3, 0, 3), 1);
        Due.due("the first", x.entryOf(0, 3, 0), 1);
        Due.due("the second", x.entryOf(0, 3, 1), 19);
        Due.due("take again: none other", x.take(0, 3, 0, 3), 0);
        Due.due("take from elsewhere", x.take(0, 4, 0, 3), 2);
        Due.due("the first", x.entryOf(0, 3, 0), 19);
        Due.due("the second", x.entryOf(0, 3, 1), 10);
        Due.due("another CELL stays", x.entryOf(0, 4, 3), 11);
        x.sheet(1, 1, 5);
        Due.due("take from ints", x.take(1, 0, 0, 4), 1);
        Due.due("none is left", x.of(0, 4, 3), 0);
        Due.due("0 where there may be none", x.take(1, 0, 0, 0), 0);
        x.put(1, 3, -2);
        Due.due("it may become BROKEN", x.take(1, 0, 0, 4), 1);
        Due.due("it is", x.broken(0), 1 + 16 * 4);
        x.sheet(1, 1, 7);
        x.put(1, 0, 99);
        x.put(1, 4, (1L << 32) + 7);
        x.put(1, 6, 99);
        Due.due("what stands ahead and behind does not count", x.take(1, 1, 0, 4), 1);
        Due.due("ints are narrowed when they are put", x.entryOf(0, 4, 3), 17);
    }

    private static void takeRefused() {
        PagesByLevels x = Due.told("0;0;0@3;1@1:-9*0;");
        x.sheet(0, 0, 4);
        x.sheet(1, 1, 5);
        x.sheet(2, 2, 40);
        x.put(0, 0, 1);
        for (int v : new int[] {10, -10, 127, -128}) {
            for (int place = 0; place < 2; place++) {
                x.put(0, place, v);
                Due.due("take of " + v, x.take(0, 0, 0, 3), -1);
                x.put(0, place, 1);
            }
        }
        x.put(0, 2, 1);
        Due.due("take of one at another LEVEL", x.take(0, 0, 0, 3), -1);
        x.put(0, 2, 0);
        x.put(0, 3, 1);
        Due.due("take of itself", x.take(0, 0, 0, 3), -1);
        x.put(1, 4, 256);
        Due.due("take of 256", x.take(1, 1, 0, 3), -1);
        Due.due("nothing is changed", x.entryOf(0, 3, 0), 1);
        for (int i : new int[] {-1, 2, MIN, MAX}) {
            Due.due("take outside", x.take(1, i, 0, 3), -12);
            Due.due("take from longs", x.take(2, i, 0, 3), -13);
            Due.due("take from nothing", x.take(3, i, 0, 3), -11);
        }
        for (int v : new int[] {-1, 4, MIN, MAX}) {
            Due.due("take to no COMPLEX", x.take(3, 0, v, 3), -1);
            Due.due("take to no CELL", x.take(3, 0, 0, v), -1);
            Due.due("take from no SHEET", x.take(v, 0, 0, 3), -1);
        }
        Due.due("take to no CELL", x.take(0, 0, 1, 0), -1);
    }

    private static void many() {
        PagesByLevels x = Due.told("0;1:0;2:1;");
        Due.text(x, 2, "0;");
        Due.text(x, 3, "0;0;1:0;2:2*2;");
        Due.feed(x, "0;1:0;2:1;");
        Due.due("CELLS together", x.many(0), 8);
        Due.due("those that have CELLS", x.many(1), 13);
        Due.due("those that are BROKEN", x.many(2), 9);
        Due.due("bytes", x.many(3), 10);
        for (int what : new int[] {-1, 4, MIN, MAX}) {
            Due.due("many of what is not", x.many(what), -1);
        }
        x.clear(0);
        Due.due("those that have CELLS", x.many(1), 12);
        Due.due("those that are BROKEN", x.many(2), 8);
    }

    private static void keepAndAgain() {
        PagesByLevels x = Due.told("0@1;1@2:5*0;");
        Due.text(x, 3, "0;");
        Due.due("again ahead of keep", x.again(), -3);
        Due.due("nothing is changed", x.many(0), 3);
        Due.due("keep", x.keep(), 1);
        String was = Due.shape(x, 0);
        x.entry(0, 1, 0, 4);
        x.cell(1, 0, 0, 0);
        x.clear(3);
        x.sheet(0, 0, 1);
        x.put(0, 0, 7);
        x.feed(0x3B30, 1);
        Due.due("again", x.again(), 3);
        Due.isTrue("as it was kept", was.equals(Due.shape(x, 0)));
        Due.due("those that have CELLS", x.many(1), 9);
        Due.due("THE TAPE is not kept", x.many(3), 1);
        Due.due("SHEETS are not kept", x.item(0, 0, 0), 7);
        x.entry(0, 1, 0, 3);
        Due.due("what is kept stays", x.again(), 3);
        Due.isTrue("as it was kept", was.equals(Due.shape(x, 0)));
        x.clear(0);
        Due.due("keep anew", x.keep(), 1);
        x.clear(3);
        Due.due("the latest", x.again(), 1);
        Due.due("nothing else", x.many(1), 8);
        x = new PagesByLevels();
        Due.due("keep of nothing", x.keep(), 1);
        x.cell(0, 0, 0, 0);
        Due.due("again nothing", x.again(), 0);
        Due.due("no CELLS", x.many(1), 0);
    }
}
