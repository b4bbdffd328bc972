/** Promises 11 to 18. */
public final class PagesTest {
    private static final int MIN = Integer.MIN_VALUE, MAX = Integer.MAX_VALUE;
    private static final int[] PRIMES = {2, 3, 5, 7};

    public static void main(String[] args) {
        goes();
        goesByOrder();
        reduced();
        page();
        turns();
        stands();
        left();
        whole();
        factors();
        wholeAt();
        bad();
        state();
        Due.end("PagesTest");
    }

    private static void goes() {
        PagesByLevels x = Due.told("0;0;0;1@1:-0,1;1@1:-1,2;1@2:-0,2;2@3:3,4,-5;");
        int[] want = {-3, 3, 4, 1, 2, 6, 5};
        for (int p : PRIMES) {
            for (int cell = 0; cell < 7; cell++) {
                Due.due("a triangle: goes by " + p + " of " + cell, x.goes(0, 0, p, cell), want[cell]);
            }
        }
        x = Due.told("0;1@3:6*0;");
        Due.due("6 is nothing by 2", x.goes(0, 0, 2, 1), -3);
        Due.due("6 is nothing by 3", x.goes(0, 0, 3, 0), -3);
        Due.due("6 is 1 by 5", x.goes(0, 0, 5, 1), 0);
        Due.due("6 is 6 by 7", x.goes(0, 0, 7, 0), 1);
    }

    private static void goesByOrder() {
        PagesByLevels x = Due.told("0@1 5;0@2 4;1@9 9:0,1;");
        Due.due("by WAY 0 the last is CELL 1", x.goes(0, 0, 2, 2), 1);
        Due.due("by WAY 1 the last is CELL 0", x.goes(0, 1, 2, 2), 0);
        Due.due("CELL 1 stays by WAY 1", x.goes(0, 1, 2, 1), -3);
        x = Due.told("0;0;1:0,1;1:0,1;");
        Due.due("the first number goes", x.goes(0, 0, 2, 2), 1);
        Due.due("the next one stays", x.goes(0, 0, 2, 3), -3);
        x = Due.told("0;0;1@2 1:0,1;1@1 2:0,1;");
        Due.due("the lesser LEVEL goes, by WAY 0", x.goes(0, 0, 2, 3), 1);
        Due.due("the lesser LEVEL goes, by WAY 1", x.goes(0, 1, 2, 2), 1);
        x = new PagesByLevels();
        x.cell(1, 2, 0, 0);
        x.cell(1, 1, 0, 0);
        x.cell(1, 0, 0, 0);
        x.cell(1, 1, 0, 0);
        x.entry(1, 3, 2, 1);
        x.entry(1, 0, 1, 1);
        Due.due("the lesser DEGREE stands before", x.goes(1, 0, 3, 1), 0);
        Due.due("and its number does not matter", x.goes(1, 0, 3, 3), 2);
    }

    private static void reduced() {
        PagesByLevels x = Due.told("0;0;0;1@1:-0,1;1@1:-1,2;1@2:-0,2;2@3:3,4,-5;");
        Due.due("-1 leaves 2 by 3", x.reduced(0, 0, 3, 3, 0), 2);
        Due.due("-1 leaves 6 by 7", x.reduced(0, 0, 7, 6, 5), 6);
        Due.due("where there may be no ENTRY", x.reduced(0, 0, 7, 6, 0), 0);
        Due.due("a round is reduced to nothing", x.reduced(0, 0, 7, 5, 2), 0);
        Due.due("a round is reduced to nothing", x.reduced(0, 0, 7, 5, 0), 0);
        x = Due.told("0;0;1:3*0,2*1;1:4*0,3*1;");
        // By 5: twice 4 is 3, so (4, 3) less 4 times (3, 2) is (4 - 12, 0), that is (2, 0).
        Due.due("taken away", x.reduced(0, 0, 5, 3, 0), 2);
        Due.due("taken away: the last is 0", x.reduced(0, 0, 5, 3, 1), 0);
        Due.due("then it goes with the one ahead", x.goes(0, 0, 5, 3), 0);
        Due.due("the first stands as it was", x.reduced(0, 0, 5, 2, 1), 2);
        Due.due("the first goes with the last", x.goes(0, 0, 5, 2), 1);
        Due.due("9 leaves 2 by 7", Due.told("0;1:9*0;").reduced(0, 0, 7, 1, 0), 2);
        Due.due("-9 leaves 5 by 7", Due.told("0;1:-9*0;").reduced(0, 0, 7, 1, 0), 5);
    }

    private static void page() {
        PagesByLevels x = Due.told("0;1@3 1:0;1@3:2*0;0@5;");
        Due.due("page 0 at 0, 0", x.page(0, 0, 5, 0, 0, 0), 1);
        Due.due("page 0 at 3, 1", x.page(0, 0, 5, 0, 3, 1), 2);
        Due.due("page 3 at 3, 1", x.page(0, 0, 5, 3, 3, 1), 2);
        Due.due("page 4 at 3, 1", x.page(0, 0, 5, 4, 3, 1), 1);
        Due.due("page 4 at 0, 0", x.page(0, 0, 5, 4, 0, 0), 0);
        Due.due("page 10 at 5, 0", x.page(0, 0, 5, 10, 5, 0), 1);
        Due.due("page 10 at 5, 1", x.page(0, 0, 5, 10, 5, 1), 0);
        Due.due("by WAY 1 the GAP is 1", x.page(0, 1, 5, 1, 1, 1), 1);
        Due.due("by WAY 1 no more", x.page(0, 1, 5, 2, 1, 1), 0);
        Due.due("none in DEGREE 4", x.page(0, 1, 5, 0, 9, 4), 0);
        x = Due.told("0@9;1@9:0;");
        Due.due("a GAP of 0 stands on page 0", x.page(0, 0, 2, 0, 9, 1), 1);
        Due.due("a GAP of 0 is gone on page 1", x.page(0, 0, 2, 1, 9, 1), 0);
    }

    private static void turns() {
        PagesByLevels x = Due.told("0;1@3 1:0;1@3:2*0;2@9;");
        Due.due("it turns on page 3", x.turns(0, 0, 5, 3, 3, 1), 1);
        Due.due("not on page 2", x.turns(0, 0, 5, 2, 3, 1), 0);
        Due.due("not on page 4", x.turns(0, 0, 5, 4, 3, 1), 0);
        Due.due("not at the lower one", x.turns(0, 0, 5, 3, 0, 0), 0);
        Due.due("by WAY 1 on page 1", x.turns(0, 1, 5, 1, 1, 1), 1);
        Due.due("none at DEGREE 2", x.turns(0, 0, 5, 0, 9, 2), 0);
        x = Due.told("0@4;0@4;1@4:0;1@4:1;");
        Due.due("two turn on page 0", x.turns(0, 1, 7, 0, 4, 1), 2);
    }

    private static void stands() {
        PagesByLevels x = new PagesByLevels();
        Due.due("no CELLS", x.stands(3, 1, 7), 0);
        Due.due("all stay", Due.told("0;1@9:2*0;").stands(0, 0, 2), 0);
        Due.due("a GAP of 9", Due.told("0;1@9:2*0;").stands(0, 0, 3), 10);
        Due.due("a GAP of 0", Due.told("0@9;1@9:2*0;").stands(0, 0, 3), 1);
        x = Due.told("0@2 5;1@6 5:0;0;1@3 9:2;");
        Due.due("the widest GAP counts, by WAY 0", x.stands(0, 0, 3), 5);
        Due.due("the widest GAP counts, by WAY 1", x.stands(0, 1, 3), 10);
    }

    private static void left() {
        PagesByLevels x = Due.told("0;1:2*0;2;2;3:3*2,3*3;4;");
        int[][] want = {{1, 1, 1, 0, 1}, {0, 0, 2, 1, 1}, {0, 0, 1, 0, 1}};
        for (int degree = 0; degree < 5; degree++) {
            Due.due("left by 2", x.left(0, 2, degree), want[0][degree]);
            Due.due("left by 3", x.left(0, 3, degree), want[1][degree]);
            Due.due("left by 5", x.left(0, 5, degree), want[2][degree]);
            Due.due("left by 7 of none", x.left(1, 7, degree), 0);
        }
    }

    private static void whole() {
        PagesByLevels x = Due.told("0;0;0;1@1:-0,1;1@1:-1,2;1@2:-0,2;2@3:3,4,-5;");
        int[] free = {1, 0, 0, 0, 0};
        for (int degree = 0; degree < 5; degree++) {
            Due.due("a triangle: FREE", x.whole(0, degree, 0), free[degree]);
            Due.due("a triangle: FACTORS", x.whole(0, degree, 1), -3);
            Due.due("none: FREE", x.whole(1, degree, 0), 0);
        }
        x = Due.told("4;4;3;");
        Due.due("FREE of DEGREE 4", x.whole(0, 4, 0), 2);
        Due.due("FREE of DEGREE 3", x.whole(0, 3, 0), 1);
        x = Due.told("0;1;1;2:1,0*2;2:2*1,0*2;");
        Due.due("FREE of DEGREE 1", x.whole(0, 1, 0), 1);
        Due.due("FREE of DEGREE 2", x.whole(0, 2, 0), 1);
        Due.due("no FACTOR: 1 and 2 together make 1", x.whole(0, 1, 1), -3);
    }

    private static void factors() {
        PagesByLevels x = Due.told("0;0;1:4*0;1:6*1;");
        Due.due("4 and 6: the first", x.whole(0, 0, 1), 2);
        Due.due("4 and 6: the second", x.whole(0, 0, 2), 12);
        Due.due("4 and 6: no third", x.whole(0, 0, 3), -3);
        Due.due("4 and 6: none that far", x.whole(0, 0, MAX), -3);
        Due.due("4 and 6: none is free", x.whole(0, 0, 0), 0);
        x = Due.told("0;0;0;1:0,2*1;1:3*1,-9*2;1:-7*0,5*2;");
        // The determinant of (1 2 0, 0 3 -9, -7 0 5) is 15 + 126 = 141.
        Due.due("one FACTOR of three", x.whole(0, 0, 1), 141);
        Due.due("and no second", x.whole(0, 0, 2), -3);
        x = Due.told("0;0;0;0;0;0;1:9*0;1:9*1;1:9*2;1:9*3;1:9*4;1:9*5;");
        for (int i = 1; i <= 6; i++) {
            Due.due("six FACTORS of 9", x.whole(0, 0, i), 9);
        }
        Due.due("no seventh", x.whole(0, 0, 7), -3);
        x = widest();
        Due.due("the widest one: FREE", x.whole(0, 0, 0), 0);
        Due.due("the widest one: its only FACTOR", x.whole(0, 0, 1), 9);
        long all = 1;
        for (int i = 1; x.whole(0, 0, i) > 0; i++) {
            all *= x.whole(0, 0, i);
        }
        Due.due("the widest one: all FACTORS together", all, 85030560L);
        x = Due.told("0;0;1:2*0,2*1;1:2*0,2*1;1:4*0,4*1;");
        Due.due("FREE beside a FACTOR", x.whole(0, 0, 0), 1);
        Due.due("a FACTOR beside FREE", x.whole(0, 0, 1), 2);
        Due.due("FREE of those above", x.whole(0, 1, 0), 2);
        Due.due("a negative one", Due.told("0;1:-5*0;").whole(0, 0, 1), 5);
    }

    /** A determinant of 9 to the sixth, times 160: the widest of plus and minus 1 in six rows. */
    private static PagesByLevels widest() {
        PagesByLevels x = new PagesByLevels();
        for (int i = 0; i < 12; i++) {
            x.cell(0, i / 6, 0, 0);
        }
        String[] rows = {"-+++++", "+-++++", "++-+++", "----++", "---+-+", "---++-"};
        for (int i = 0; i < 6; i++) {
            for (int k = 0; k < 6; k++) {
                x.entry(0, 6 + i, k, rows[i].charAt(k) == '+' ? 9 : -9);
            }
        }
        return x;
    }

    private static void wholeAt() {
        PagesByLevels x = Due.told("0;0@1 0;1@1 0:3*0,2*1;");
        Due.due("FREE at LEVEL 0", x.wholeAt(0, 0, 0, 0, 0), 1);
        Due.due("FREE at LEVEL 1", x.wholeAt(0, 0, 1, 0, 0), 0);
        Due.due("a FACTOR at LEVEL 1", x.wholeAt(0, 0, 1, 0, 1), 2);
        Due.due("no other", x.wholeAt(0, 0, 1, 0, 2), -3);
        Due.due("none of DEGREE 1 is FREE", x.wholeAt(0, 0, 1, 1, 0), 0);
        Due.due("none at LEVEL 9", x.wholeAt(0, 0, 9, 1, 0), 0);
        Due.due("by WAY 1 all are at LEVEL 0: FREE", x.wholeAt(0, 1, 0, 0, 0), 1);
        Due.due("by WAY 1 3 and 2 make 1", x.wholeAt(0, 1, 0, 0, 1), -3);
        Due.due("whole: FREE", x.whole(0, 0, 0), 1);
        Due.due("none that far", x.wholeAt(0, 1, 0, 0, MAX), -3);
    }

    private static void bad() {
        PagesByLevels x = Due.told("0;1:0;");
        for (int c : new int[] {-1, 4, MIN, MAX}) {
            badOf(x, c, 0, 2, 0, 0, 0);
        }
        for (int way : new int[] {-1, 2, MIN, MAX}) {
            badOf(x, 0, way, 2, 0, 0, 0);
        }
        for (int p : new int[] {0, 1, -2, 4, 6, 8, 9, 11, MIN, MAX}) {
            badOf(x, 0, 0, p, 0, 0, 0);
        }
        for (int v : new int[] {-1, 2, MIN, MAX}) {
            Due.due("goes of no CELL", x.goes(0, 0, 2, v), -1);
            Due.due("reduced of no CELL", x.reduced(0, 0, 2, v, 0), -1);
            Due.due("reduced of no CELL", x.reduced(0, 0, 2, 0, v), -1);
        }
        for (int v : new int[] {-1, MIN, MAX}) {
            Due.due("page of no r", x.page(0, 0, 2, v, 0, 0), -1);
            Due.due("turns of no r", x.turns(0, 0, 2, v, 0, 0), -1);
            Due.due("page of no LEVEL", x.page(0, 0, 2, 0, v, 0), -1);
            Due.due("turns of no LEVEL", x.turns(0, 0, 2, 0, v, 0), -1);
            Due.due("wholeAt of no LEVEL", x.wholeAt(0, 0, v, 0, 0), -1);
            badDegree(x, v);
        }
        badDegree(x, 5);
        Due.due("page 11", x.page(0, 0, 2, 11, 0, 0), -1);
        Due.due("page 10", x.page(0, 0, 2, 10, 9, 4), 0);
        Due.due("turns 11", x.turns(0, 0, 2, 11, 0, 0), -1);
        Due.due("turns 10", x.turns(0, 0, 2, 10, 9, 4), 0);
        Due.due("page of LEVEL 10", x.page(0, 0, 2, 0, 10, 0), -1);
        Due.due("turns of LEVEL 10", x.turns(0, 0, 2, 0, 10, 0), -1);
        Due.due("wholeAt of LEVEL 10", x.wholeAt(0, 0, 10, 0, 0), -1);
        Due.due("wholeAt of no WAY", x.wholeAt(0, 2, 0, 0, 0), -1);
        Due.due("wholeAt of no WAY", x.wholeAt(0, -1, 0, 0, 0), -1);
        Due.due("wholeAt of no COMPLEX", x.wholeAt(4, 0, 0, 0, 0), -1);
        Due.due("whole of i -1", x.whole(0, 0, -1), -1);
        Due.due("whole of i MIN", x.whole(0, 0, MIN), -1);
        Due.due("wholeAt of i -1", x.wholeAt(0, 0, 0, 0, -1), -1);
    }

    private static void badDegree(PagesByLevels x, int degree) {
        Due.due("page of no DEGREE", x.page(0, 0, 2, 0, 0, degree), -1);
        Due.due("turns of no DEGREE", x.turns(0, 0, 2, 0, 0, degree), -1);
        Due.due("left of no DEGREE", x.left(0, 2, degree), -1);
        Due.due("whole of no DEGREE", x.whole(0, degree, 0), -1);
        Due.due("wholeAt of no DEGREE", x.wholeAt(0, 0, 0, degree, 0), -1);
    }

    private static void badOf(PagesByLevels x, int c, int way, int p, int cell, int y, int degree) {
        Due.due("a bad goes", x.goes(c, way, p, cell), -1);
        Due.due("a bad reduced", x.reduced(c, way, p, cell, y), -1);
        Due.due("a bad page", x.page(c, way, p, 0, 0, degree), -1);
        Due.due("a bad turns", x.turns(c, way, p, 0, 0, degree), -1);
        Due.due("a bad stands", x.stands(c, way, p), -1);
        if (way == 0) {
            Due.due("a bad left", x.left(c, p, degree), -1);
        }
        if (way == 0 && p == 2) {
            Due.due("a bad whole", x.whole(c, degree, 0), -1);
        }
    }

    private static void state() {
        PagesByLevels x = Due.told("0;1:0;2:2*1;");
        for (int cell = 0; cell < 3; cell++) {
            Due.due("goes of a BROKEN one", x.goes(0, 0, 2, cell), -4);
            Due.due("reduced of a BROKEN one", x.reduced(0, 1, 2, cell, 0), -4);
        }
        Due.due("page of a BROKEN one", x.page(0, 0, 2, 0, 0, 0), -4);
        Due.due("turns of a BROKEN one", x.turns(0, 0, 2, 0, 0, 0), -4);
        Due.due("stands of a BROKEN one", x.stands(0, 0, 2), -4);
        Due.due("left of a BROKEN one", x.left(0, 2, 0), -4);
        Due.due("whole of a BROKEN one", x.whole(0, 0, 0), -4);
        Due.due("a FACTOR of a BROKEN one", x.whole(0, 0, 9), -4);
        Due.due("wholeAt of a BROKEN one", x.wholeAt(0, 0, 0, 0, 0), -4);
        Due.due("wholeAt of a BROKEN one", x.wholeAt(0, 0, 9, 0, 1), -4);
        Due.due("BAD ahead of STATE: goes", x.goes(0, 0, 2, 3), -1);
        Due.due("BAD ahead of STATE: reduced", x.reduced(0, 0, 2, 3, 0), -1);
        Due.due("BAD ahead of STATE: page", x.page(0, 0, 2, 11, 0, 0), -1);
        Due.due("BAD ahead of STATE: turns", x.turns(0, 0, 2, 0, 10, 0), -1);
        Due.due("BAD ahead of STATE: stands", x.stands(0, 0, 4), -1);
        Due.due("BAD ahead of STATE: left", x.left(0, 2, 5), -1);
        Due.due("BAD ahead of STATE: whole", x.whole(0, 0, -1), -1);
        Due.due("BAD ahead of STATE: wholeAt", x.wholeAt(0, 0, 0, 0, -1), -1);
        Due.due("another COMPLEX is not", x.stands(1, 0, 2), 0);
    }
}
