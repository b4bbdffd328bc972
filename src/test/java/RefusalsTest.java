/** Each refusal, that it changes nothing (each of them is looked at for that), and which one goes ahead of which. */
public final class RefusalsTest {
    private static final int BAD = -1, FULL = -2, NONE = -3, STATE = -4;
    private static final int NOTHING = -11, OUTSIDE = -12, UNLIKE = -13, NEGATIVE = -14;
    /** SHEETS of the scene: 0 holds bytes, 1 longs, 3 ints; 2 is missing. */
    private static final int BYTES = 0, LONGS = 1, MISSING = 2, INTS = 3;

    public static void main(String[] args) {
        full();
        none();
        state();
        nothing();
        outside();
        unlike();
        negative();
        bad();
        Due.sentence("Answers below 0, where not told otherwise, are refusals; such a call changes nothing (but that THE TAPE is "
            + "used up by text())");
        fault();
        Due.sentence("of several the first named");
        badAheadOfFull();
        badAheadOfState();
        stateAheadOfNone();
        badAheadOfRows();
        nothingAhead();
        unlikeAhead();
        outsideAhead();
        badAheadOfFault();
        Due.end("RefusalsTest");
    }

    private static void full() {
        Due.sentence("FULL (-2);");
        Scene.refused("cell: a thirteenth one", FULL, x -> x.cell(2, 0, 0, 0));
        Scene.refused("feed: more than there is place for", FULL, RefusalsTest::fedFull, x -> x.feed(0x3030, 2));
        Scene.refused("times: more than 12 CELLS", FULL, x -> x.times(0, 3, 1));
        Scene.refused("times: more than 12 CELLS, onto itself", FULL, x -> x.times(0, 3, 0));
        Scene.refused("times: a DEGREE above 4", FULL, x -> told(x, "4;", "1;"), x -> x.times(0, 1, 1));
        Scene.refused("times: a LEVEL above 9", FULL, x -> told(x, "0@9 8;", "0@1;"), x -> x.times(0, 1, 1));
        Scene.refused("times: another LEVEL above 9", FULL, x -> told(x, "0@8 9;", "0@1;"), x -> x.times(0, 1, 1));
    }

    /** THE TAPE has 199 bytes: what the scene put there, and what is no TEXT. */
    private static PagesByLevels fedFull(PagesByLevels x) {
        x.text(0);
        Due.feed(x, "0;1:-".concat(" ".repeat(194)));
        return x;
    }

    private static PagesByLevels told(PagesByLevels x, String first, String second) {
        x.text(0);
        Due.text(x, 0, first);
        Due.text(x, 1, second);
        return x;
    }

    private static void none() {
        Due.sentence("NONE (-3);");
        Scene.refused("again: nothing is kept", NONE, new PagesByLevels(), Scene.all(new PagesByLevels()),
            PagesByLevels::again);
        Scene.refused("goes: it stays", NONE, x -> x.goes(0, 0, 5, 4));
        Scene.refused("whole: there are not so many", NONE, x -> x.whole(0, 0, 2));
        Scene.refused("wholeAt: there are not so many", NONE, x -> x.wholeAt(0, 0, 0, 0, 1));
    }

    private static void state() {
        Due.sentence("STATE (-4) the complex is BROKEN;");
        Scene.refused("goes of a BROKEN one", STATE, x -> x.goes(1, 0, 5, 0));
        Scene.refused("reduced of a BROKEN one", STATE, x -> x.reduced(1, 0, 5, 1, 0));
        Scene.refused("page of a BROKEN one", STATE, x -> x.page(1, 0, 5, 0, 0, 0));
        Scene.refused("turns of a BROKEN one", STATE, x -> x.turns(1, 0, 5, 0, 0, 0));
        Scene.refused("stands of a BROKEN one", STATE, x -> x.stands(1, 0, 5));
        Scene.refused("left of a BROKEN one", STATE, x -> x.left(1, 5, 0));
        Scene.refused("whole of a BROKEN one", STATE, x -> x.whole(1, 0, 0));
        Scene.refused("wholeAt of a BROKEN one", STATE, x -> x.wholeAt(1, 0, 0, 0, 0));
    }

    private static void nothing() {
        Due.sentence("-11 nothing where something is asked");
        Scene.refused("put: it is missing", NOTHING, x -> x.put(MISSING, 0, 1));
        Scene.refused("item: it is missing", NOTHING, x -> x.item(MISSING, 0, 0));
        Scene.refused("copy: the first is missing", NOTHING, x -> x.copy(MISSING, 0, BYTES, 0, 1));
        Scene.refused("copy: the second is missing", NOTHING, x -> x.copy(BYTES, 0, MISSING, 0, 1));
        Scene.refused("copy: it is missing, to itself", NOTHING, x -> x.copy(MISSING, 0, MISSING, 0, 0));
        Scene.refused("lay: it is missing", NOTHING, x -> x.lay(0, 2, MISSING, 0));
        Scene.refused("take: it is missing", NOTHING, x -> x.take(MISSING, 0, 0, 2));
    }

    private static void outside() {
        Due.sentence("-12 a place outside");
        Scene.refused("put: outside", OUTSIDE, x -> x.put(BYTES, 8, 1));
        Scene.refused("item: outside", OUTSIDE, x -> x.item(BYTES, 0, 8));
        Scene.refused("copy: the first is outside", OUTSIDE, x -> x.copy(BYTES, 1, BYTES, 0, 8));
        Scene.refused("copy: the second is outside", OUTSIDE, x -> x.copy(BYTES, 0, BYTES, 1, 8));
        Scene.refused("lay: outside", OUTSIDE, x -> x.lay(0, 2, INTS, 3));
        Scene.refused("take: outside", OUTSIDE, x -> x.take(INTS, 3, 0, 2));
    }

    private static void unlike() {
        Due.sentence("-13 a row of another sort");
        Scene.refused("item: bytes as ints", UNLIKE, x -> x.item(BYTES, 1, 1));
        Scene.refused("item: ints as longs", UNLIKE, x -> x.item(INTS, 2, 1));
        Scene.refused("copy: bytes and ints", UNLIKE, x -> x.copy(BYTES, 0, INTS, 0, 1));
        Scene.refused("copy: longs and ints", UNLIKE, x -> x.copy(LONGS, 0, INTS, 0, 1));
        Scene.refused("lay: to longs", UNLIKE, x -> x.lay(0, 2, LONGS, 0));
        Scene.refused("take: from longs", UNLIKE, x -> x.take(LONGS, 0, 0, 2));
    }

    private static void negative() {
        Due.sentence("-14 a size below 0");
        Scene.refused("sheet: -1", NEGATIVE, x -> x.sheet(BYTES, 0, -1));
        Scene.refused("sheet: of another sort", NEGATIVE, x -> x.sheet(BYTES, 2, -1));
        Scene.refused("sheet: it is missing", NEGATIVE, x -> x.sheet(MISSING, 1, Integer.MIN_VALUE));
    }

    private static void bad() {
        Due.sentence("BAD (-1) there is no such thing, or a number is not as told");
        Scene.refused("entry: a y that may have none there", BAD, x -> x.entry(0, 4, 0, 1));
        Scene.refused("would: a y that may have none there", BAD, x -> x.would(0, 4, 0, 1, 2, 0));
        Scene.refused("take: one where there may be none", BAD, x -> x.take(BYTES, 0, 0, 1));
        Scene.refused("take: the last one may not be", BAD, RefusalsTest::lastTen, x -> x.take(BYTES, 3, 3, 2));
        Scene.refused("sheet: n above 40", BAD, x -> x.sheet(BYTES, 0, 41));
        Scene.refused("sheet: n above 40", BAD, x -> x.sheet(MISSING, 0, 41));
    }

    /** From place 3 on: 0, an ENTRY that may be, and one that may not. */
    private static PagesByLevels lastTen(PagesByLevels x) {
        x.put(BYTES, 4, 5);
        x.put(BYTES, 5, 10);
        return x;
    }

    private static void fault() {
        PagesByLevels x = Scene.made();
        PagesByLevels y = Scene.made();
        Due.due("a FAULT", x.text(0), -105);
        Due.due("THE TAPE is used up", x.many(3), 0);
        Due.feed(x, Scene.ON_TAPE);
        Due.same("all else is as it was", Scene.all(x), Scene.all(y));
        x = Scene.made();
        Due.due("BAD: no such COMPLEX", x.text(4), BAD);
        Due.due("THE TAPE stays", x.many(3), 5);
        Due.due("what it tells is read once alone", x.text(0), -105);
        Due.due("then it tells no CELLS", x.text(0), 0);
    }

    private static void badAheadOfFull() {
        Scene.refused("cell: no DEGREE, and FULL", BAD, x -> x.cell(2, 5, 0, 0));
        Scene.refused("cell: no LEVEL, and FULL", BAD, x -> x.cell(2, 0, 10, 0));
        Scene.refused("cell: no other LEVEL, and FULL", BAD, x -> x.cell(2, 0, 0, 10));
        Scene.refused("feed: no n, and FULL", BAD, RefusalsTest::fedFull, x -> x.feed(0, 9));
        Scene.refused("times: to none, and FULL", BAD, x -> x.times(2, 2, 4));
    }

    private static void badAheadOfState() {
        Scene.refused("goes: no WAY, and BROKEN", BAD, x -> x.goes(1, 2, 5, 0));
        Scene.refused("goes: no prime, and BROKEN", BAD, x -> x.goes(1, 0, 4, 0));
        Scene.refused("goes: no CELL, and BROKEN", BAD, x -> x.goes(1, 0, 5, 3));
        Scene.refused("reduced: no WAY, and BROKEN", BAD, x -> x.reduced(1, 2, 5, 0, 0));
        Scene.refused("reduced: no prime, and BROKEN", BAD, x -> x.reduced(1, 0, 4, 0, 0));
        Scene.refused("reduced: no x, and BROKEN", BAD, x -> x.reduced(1, 0, 5, 3, 0));
        Scene.refused("reduced: no y, and BROKEN", BAD, x -> x.reduced(1, 0, 5, 0, 3));
        Scene.refused("page: no WAY, and BROKEN", BAD, x -> x.page(1, 2, 5, 0, 0, 0));
        Scene.refused("page: no prime, and BROKEN", BAD, x -> x.page(1, 0, 4, 0, 0, 0));
        Scene.refused("page: no r, and BROKEN", BAD, x -> x.page(1, 0, 5, 11, 0, 0));
        Scene.refused("page: no LEVEL, and BROKEN", BAD, x -> x.page(1, 0, 5, 0, 10, 0));
        Scene.refused("page: no DEGREE, and BROKEN", BAD, x -> x.page(1, 0, 5, 0, 0, 5));
        Scene.refused("turns: no WAY, and BROKEN", BAD, x -> x.turns(1, 2, 5, 0, 0, 0));
        Scene.refused("turns: no prime, and BROKEN", BAD, x -> x.turns(1, 0, 4, 0, 0, 0));
        Scene.refused("turns: no r, and BROKEN", BAD, x -> x.turns(1, 0, 5, 11, 0, 0));
        Scene.refused("turns: no LEVEL, and BROKEN", BAD, x -> x.turns(1, 0, 5, 0, 10, 0));
        Scene.refused("turns: no DEGREE, and BROKEN", BAD, x -> x.turns(1, 0, 5, 0, 0, 5));
        Scene.refused("stands: no WAY, and BROKEN", BAD, x -> x.stands(1, 2, 5));
        Scene.refused("stands: no prime, and BROKEN", BAD, x -> x.stands(1, 0, 4));
        Scene.refused("left: no prime, and BROKEN", BAD, x -> x.left(1, 4, 0));
        Scene.refused("left: no DEGREE, and BROKEN", BAD, x -> x.left(1, 5, 5));
        Scene.refused("whole: no DEGREE, and BROKEN", BAD, x -> x.whole(1, 5, 0));
        Scene.refused("whole: no i, and BROKEN", BAD, x -> x.whole(1, 0, -1));
        Scene.refused("wholeAt: no WAY, and BROKEN", BAD, x -> x.wholeAt(1, 2, 0, 0, 0));
        Scene.refused("wholeAt: no LEVEL, and BROKEN", BAD, x -> x.wholeAt(1, 0, 10, 0, 0));
        Scene.refused("wholeAt: no DEGREE, and BROKEN", BAD, x -> x.wholeAt(1, 0, 0, 5, 0));
        Scene.refused("wholeAt: no i, and BROKEN", BAD, x -> x.wholeAt(1, 0, 0, 0, -1));
        Scene.refused("would: no prime, and it would be BROKEN", BAD, x -> x.would(1, 1, 0, 3, 4, 0));
        Scene.refused("would: no DEGREE, and it would be BROKEN", BAD, x -> x.would(1, 1, 0, 3, 5, 5));
        Scene.refused("would: no v, and it would be BROKEN", BAD, x -> x.would(1, 1, 0, 10, 5, 0));
        Scene.refused("would: a y that may have none there, and it would be BROKEN", BAD, x -> x.would(1, 2, 0, 0, 5, 0));
    }

    private static void stateAheadOfNone() {
        Scene.refused("goes: it would stay by 3, and BROKEN", STATE, x -> x.goes(1, 0, 3, 2));
        Scene.refused("whole: not so many, and BROKEN", STATE, x -> x.whole(1, 4, 1));
        Scene.refused("wholeAt: not so many, and BROKEN", STATE, x -> x.wholeAt(1, 0, 9, 4, 1));
    }

    private static void badAheadOfRows() {
        Scene.refused("sheet: no such one, and below 0", BAD, x -> x.sheet(4, 0, -1));
        Scene.refused("sheet: no sort, and below 0", BAD, x -> x.sheet(0, 3, -1));
        Scene.refused("sheet: no such one, missing", BAD, x -> x.sheet(4, -1, -1));
        Scene.refused("item: no sort, and missing", BAD, x -> x.item(MISSING, 3, 0));
        Scene.refused("item: no sort, and outside", BAD, x -> x.item(BYTES, 3, 8));
        Scene.refused("copy: no first, the second missing", BAD, x -> x.copy(4, 0, MISSING, 0, 1));
        Scene.refused("copy: the first missing, no second", BAD, x -> x.copy(MISSING, 0, 4, 0, 1));
        Scene.refused("copy: no second, and outside", BAD, x -> x.copy(BYTES, 9, 4, 0, 1));
        Scene.refused("lay: no COMPLEX, and missing", BAD, x -> x.lay(4, 0, MISSING, 0));
        Scene.refused("lay: no CELL, and missing", BAD, x -> x.lay(0, 6, MISSING, 0));
        Scene.refused("lay: no CELL, and longs", BAD, x -> x.lay(0, 6, LONGS, 0));
        Scene.refused("lay: no CELL, and outside", BAD, x -> x.lay(0, 6, BYTES, 3));
        Scene.refused("lay: no SHEET, and outside", BAD, x -> x.lay(0, 2, 4, 41));
        Scene.refused("take: no COMPLEX, and missing", BAD, x -> x.take(MISSING, 0, 4, 0));
        Scene.refused("take: no CELL, and missing", BAD, x -> x.take(MISSING, 0, 0, 6));
        Scene.refused("take: no CELL, and longs", BAD, x -> x.take(LONGS, 0, 0, 6));
        Scene.refused("take: no CELL, and outside", BAD, x -> x.take(BYTES, 3, 0, 6));
        Scene.refused("take: no SHEET, and outside", BAD, x -> x.take(4, 41, 0, 2));
    }

    private static void nothingAhead() {
        Scene.refused("put: missing, and outside", NOTHING, x -> x.put(MISSING, -1, 0));
        Scene.refused("item: missing, and outside", NOTHING, x -> x.item(MISSING, 1, -1));
        Scene.refused("copy: the first missing, and outside", NOTHING, x -> x.copy(MISSING, 0, BYTES, 9, 1));
        Scene.refused("copy: the second missing, and outside", NOTHING, x -> x.copy(LONGS, 9, MISSING, 0, 1));
        Scene.refused("lay: missing, and outside", NOTHING, x -> x.lay(0, 2, MISSING, -1));
        Scene.refused("take: missing, and outside", NOTHING, x -> x.take(MISSING, -1, 0, 2));
    }

    private static void unlikeAhead() {
        Scene.refused("item: of another sort, and outside", UNLIKE, x -> x.item(BYTES, 2, 8));
        Scene.refused("copy: of unlike sorts, the first outside", UNLIKE, x -> x.copy(BYTES, 8, INTS, 0, 1));
        Scene.refused("copy: of unlike sorts, the second outside", UNLIKE, x -> x.copy(INTS, 0, LONGS, 8, 1));
        Scene.refused("copy: of unlike sorts, n below 0", UNLIKE, x -> x.copy(INTS, 0, BYTES, 0, -1));
        Scene.refused("lay: to longs, and outside", UNLIKE, x -> x.lay(0, 2, LONGS, 3));
        Scene.refused("take: from longs, and outside", UNLIKE, x -> x.take(LONGS, 3, 0, 2));
        Scene.refused("take: from longs, one that may not be", UNLIKE, x -> x.take(LONGS, 5, 3, 2));
    }

    private static void outsideAhead() {
        Scene.refused("take: outside, one that may not be", OUTSIDE, RefusalsTest::lastTen,
            x -> x.take(BYTES, 3, 0, 2));
        Scene.refused("take: outside, one where there may be none", OUTSIDE, RefusalsTest::lastTen,
            x -> x.take(BYTES, 4, 0, 0));
    }

    private static void badAheadOfFault() {
        Scene.refused("text: no COMPLEX, and a FAULT", BAD, x -> x.text(4));
        Scene.refused("text: no COMPLEX, and a FAULT", BAD, x -> x.text(-1));
    }
}
