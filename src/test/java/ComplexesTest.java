/** Promises 1 to 10. */
public final class ComplexesTest {
    private static final int MIN = Integer.MIN_VALUE, MAX = Integer.MAX_VALUE;

    public static void main(String[] args) {
        newObject();
        clear();
        cell();
        cellsThatMayHaveEntries();
        entry();
        entryOf();
        of();
        broken();
        mend();
        mendRefused();
        feed();
        text();
        faults();
        faultsOfEntries();
        faultsAtTheEnd();
        textEdges();
        Due.end("ComplexesTest");
    }

    private static void newObject() {
        PagesByLevels x = new PagesByLevels();
        for (int c = 0; c < 4; c++) {
            Due.due("of in a new object", x.of(c, 0, 0), -1);
            Due.due("broken in a new object", x.broken(c), 0);
        }
        for (int what = 0; what < 4; what++) {
            Due.due("many in a new object", x.many(what), 0);
        }
        Due.due("again in a new object", x.again(), -3);
        Due.due("item in a new object", x.item(0, 0, 0), -11);
    }

    private static void clear() {
        PagesByLevels x = Due.told("0;1:3*0;");
        Due.due("clear(-1)", x.clear(-1), -1);
        Due.due("clear(4)", x.clear(4), -1);
        Due.due("clear(MIN)", x.clear(MIN), -1);
        Due.due("clear(1)", x.clear(1), 0);
        Due.due("many(0)", x.many(0), 2);
        Due.due("clear(0)", x.clear(0), 2);
        Due.due("clear(0) again", x.clear(0), 0);
        Due.due("many(0) after clear", x.many(0), 0);
        x.cell(0, 0, 0, 0);
        x.cell(0, 1, 0, 0);
        Due.due("an ENTRY after clear", x.entryOf(0, 1, 0), 10);
        for (int round = 0; round < 2; round++) {
            x.clear(2);
            x.cell(2, 1, 0, 0);
            x.cell(2, 0, 0, 0);
            Due.due("an ENTRY of a later CELL after clear", x.entryOf(2, 0, 1), 10);
            x.entry(2, 0, 1, 6);
        }
    }

    private static void cell() {
        PagesByLevels x = new PagesByLevels();
        int[][] bad = {{-1, 0, 0, 0}, {4, 0, 0, 0}, {0, -1, 0, 0}, {0, 5, 0, 0}, {0, 0, -1, 0}, {0, 0, 10, 0},
            {0, 0, 0, -1}, {0, 0, 0, 10}, {MAX, 0, 0, 0}, {0, MIN, 0, 0}, {0, 0, MAX, 0}, {0, 0, 0, MIN}};
        for (int[] b : bad) {
            Due.due("a bad cell", x.cell(b[0], b[1], b[2], b[3]), -1);
        }
        Due.due("many(0) after bad cells", x.many(0), 0);
        for (int i = 0; i < 12; i++) {
            Due.due("cell " + i, x.cell(3, i % 5, i % 10, 9 - i % 10), i);
        }
        Due.due("a thirteenth cell", x.cell(3, 0, 0, 0), -2);
        Due.due("a bad thirteenth cell", x.cell(3, 5, 0, 0), -1);
        for (int i = 0; i < 12; i++) {
            Due.due("DEGREE of " + i, x.of(3, i, 0), i % 5);
            Due.due("LEVEL of " + i, x.of(3, i, 1), i % 10);
            Due.due("other LEVEL of " + i, x.of(3, i, 2), 9 - i % 10);
        }
        Due.due("many(0) of a full one", x.many(0), 12);
    }

    private static void cellsThatMayHaveEntries() {
        PagesByLevels x = new PagesByLevels();
        for (int first = 0; first < 3; first++) {
            for (int second = 0; second < 3; second++) {
                for (int degree = 0; degree < 4; degree++) {
                    x.clear(1);
                    x.cell(1, 2, 1, 1);
                    x.cell(1, degree, first, second);
                    boolean may = degree == 1 && first <= 1 && second <= 1;
                    Due.due("entry at " + degree + "@" + first + " " + second, x.entry(1, 0, 1, 4), may ? 10 : -1);
                    Due.due("entryOf then", x.entryOf(1, 0, 1), may ? 14 : 10);
                    if (x.of(1, 1, 0) == 3) {
                        boolean other = first >= 1 && second >= 1;
                        Due.due("entry the other way", x.entry(1, 1, 0, -4), other ? 10 : -1);
                    }
                    x = new PagesByLevels();
                }
            }
        }
    }

    private static void entry() {
        PagesByLevels x = Due.told("0;0;1;1;");
        Due.due("entry", x.entry(0, 2, 0, -9), 10);
        Due.due("entry again", x.entry(0, 2, 0, 9), 1);
        Due.due("entry once more", x.entry(0, 2, 0, 0), 19);
        Due.due("entry back", x.entry(0, 2, 0, 5), 10);
        Due.due("its neighbours", x.entryOf(0, 2, 1), 10);
        Due.due("its neighbours", x.entryOf(0, 3, 0), 10);
        int[][] bad = {{-1, 2, 0, 1}, {4, 2, 0, 1}, {0, -1, 0, 1}, {0, 4, 0, 1}, {0, 2, -1, 1}, {0, 2, 4, 1},
            {0, 2, 0, 10}, {0, 2, 0, -10}, {0, 2, 3, 0}, {0, 2, 2, 0}, {0, 0, 2, 0}, {0, 0, 1, 0},
            {0, MAX, MIN, 0}, {0, 2, 0, MAX}, {0, 2, 0, MIN}, {1, 0, 0, 0}};
        for (int[] b : bad) {
            Due.due("a bad entry", x.entry(b[0], b[1], b[2], b[3]), -1);
        }
        Due.due("what stands after them", x.entryOf(0, 2, 0), 15);
    }

    private static void entryOf() {
        PagesByLevels x = Due.told("0;1:-7*0;");
        Due.due("entryOf", x.entryOf(0, 1, 0), 3);
        Due.due("entryOf where there may be none", x.entryOf(0, 0, 1), 10);
        Due.due("entryOf of itself", x.entryOf(0, 1, 1), 10);
        int[][] bad = {{-1, 1, 0}, {4, 1, 0}, {0, 2, 0}, {0, -1, 0}, {0, 1, 2}, {0, 1, -1}, {1, 0, 0}, {0, MAX, MIN}};
        for (int[] b : bad) {
            Due.due("a bad entryOf", x.entryOf(b[0], b[1], b[2]), -1);
        }
    }

    private static void of() {
        PagesByLevels x = Due.told("0@1 2;0;1@3 4:-0,1;1@5:1;2@9 8:2*2,0*3;");
        int[][] want = {{0, 1, 2, 0, 1}, {0, 0, 0, 0, 2}, {1, 3, 4, 2, 1}, {1, 5, 5, 1, 0}, {2, 9, 8, 1, 0}};
        for (int cell = 0; cell < 5; cell++) {
            for (int what = 0; what < 5; what++) {
                Due.due("of(0, " + cell + ", " + what + ")", x.of(0, cell, what), want[cell][what]);
            }
        }
        int[][] bad = {{-1, 0, 0}, {4, 0, 0}, {0, -1, 0}, {0, 5, 0}, {0, 0, -1}, {0, 0, 5}, {0, MIN, MAX}, {1, 0, 0}};
        for (int[] b : bad) {
            Due.due("a bad of", x.of(b[0], b[1], b[2]), -1);
        }
    }

    private static void broken() {
        Due.due("a line", Due.told("0;0;1:-0,1;").broken(0), 0);
        Due.due("a round", Due.told("0;1;2:1;").broken(0), 0);
        Due.due("broken at 2, 0", Due.told("0;1:2*0;2:1;").broken(0), 33);
        Due.due("two ways that cancel", Due.told("0;1:0;1:0;2:1,-2;").broken(0), 0);
        Due.due("two ways that do not", Due.told("0;1:0;1:0;2:1,2;").broken(0), 49);
        Due.due("the first x", Due.told("0;1:0;2:1;2:1;").broken(0), 33);
        Due.due("then the first y", Due.told("0;0;0;1:1,2;2:3;").broken(0), 1 + 64 + 1);
        Due.due("in higher DEGREES", Due.told("2;3:0;4:3*1;").broken(0), 33);
        PagesByLevels x = new PagesByLevels();
        x.cell(2, 3, 0, 0);
        x.cell(2, 2, 0, 0);
        x.cell(2, 1, 0, 0);
        x.entry(2, 0, 1, 9);
        x.entry(2, 1, 2, -9);
        Due.due("numbers the other way round", x.broken(2), 3);
        Due.due("broken(-1)", x.broken(-1), -1);
        Due.due("broken(4)", x.broken(4), -1);
        Due.due("broken(MAX)", x.broken(MAX), -1);
    }

    private static void mend() {
        PagesByLevels x = Due.told("0;1:2*0;2:1;");
        String was = Due.shape(x, 0);
        Due.due("mend by 0", x.mend(0), 409);
        Due.isTrue("mend puts all back", was.equals(Due.shape(x, 0)));
        Due.due("trials of mend", x.trials(0), 10);
        x = Due.told("0;1:0;1:0;2:1,2;");
        Due.due("mend by another v", x.mend(0), 400 + 9 - 1);
        x = Due.told("0;0;1:0,1;2:2;");
        Due.due("no ENTRY of x 2 mends it, one of x 3 does", x.mend(0), 3 * 400 + 2 * 20 + 9);
        Due.due("all v of both ENTRIES of x 2 were tried", x.trials(0), 19 + 19 + 10);
        x = Due.told("0;0;1:0,1;1:0,-1;2:2,3;");
        Due.due("mend by -1", x.mend(0), 2 * 400 + 9 - 1);
        Due.due("trials up to -1", x.trials(0), 9);
        Due.due("all are closed", x.trials(1), 9);
        Due.due("the largest v", Due.told("0;1:8*0;1:9*0;2:-9*1,9*2;").mend(0), 400 + 9 + 9);
        Due.due("the least v", Due.told("0;1:8*0;1:9*0;2:9*1,9*2;").mend(0), 400 + 9 - 9);
        x = Due.told("0;1:3*0;1:2*0;2:3*1,4*2;");
        was = Due.shape(x, 0);
        Due.due("no ENTRY alone mends it", x.mend(0), -3);
        Due.due("all are tried", x.trials(0), 4 * 19);
        Due.due("all are closed", x.trials(1), 4 * 19);
        Due.due("one is open at most", x.trials(2), 1);
        Due.isTrue("all is as it was", was.equals(Due.shape(x, 0)));
        x = Due.told("0@1;1@1:3*0;2@1:1;1;");
        Due.due("where there may be no ENTRY nothing is tried", x.mend(0), 400 + 9);
        Due.due("trials", x.trials(0), 10);
    }

    private static void mendRefused() {
        PagesByLevels x = Due.told("0;1:2*0;2:1;");
        x.mend(0);
        Due.due("mend(-1)", x.mend(-1), -1);
        Due.due("mend(4)", x.mend(4), -1);
        Due.due("trials stay after BAD", x.trials(0), 10);
        Due.due("mend of one that is not BROKEN", x.mend(1), -3);
        Due.due("no trials then", x.trials(0), 0);
        Due.due("none open at most then", x.trials(2), 0);
    }

    private static void feed() {
        PagesByLevels x = new PagesByLevels();
        int[] bad = {0, -1, 9, MAX, MIN};
        for (int n : bad) {
            Due.due("feed of " + n, x.feed(0, n), -1);
        }
        Due.due("many(3)", x.many(3), 0);
        Due.due("feed lowest first", x.feed(0x3B3A3B30L, 2), 2);
        Due.due("what it told", x.text(0), 1);
        Due.due("feed of 8", x.feed(-1L, 8), 8);
        Due.due("a byte of 255 is none of a text", x.text(0), -100);
        for (int i = 1; i <= 24; i++) {
            Due.due("feed to " + 8 * i, x.feed(0x2020202020202020L, 8), 8 * i);
        }
        Due.due("feed to 199", x.feed(0x20202020202020L, 7), 199);
        Due.due("FULL", x.feed(0x2020, 2), -2);
        Due.due("BAD before FULL", x.feed(0x2020, 9), -1);
        Due.due("many(3) after FULL", x.many(3), 199);
        Due.due("the last byte", x.feed(0x20, 1), 200);
        Due.due("no byte more", x.feed(0x20, 1), -2);
        Due.due("blanks alone tell no CELLS", x.text(0), 0);
        Due.due("THE TAPE is used up", x.many(3), 0);
    }

    private static void text() {
        PagesByLevels x = new PagesByLevels();
        Due.due("text(-1)", Due.text(x, -1, "0;"), -1);
        Due.due("THE TAPE stays", x.many(3), 2);
        Due.due("text(4)", x.text(4), -1);
        Due.due("text(0)", x.text(0), 1);
        Due.due("no TEXT: no CELLS", x.text(0), 0);
        Due.due("many(0)", x.many(0), 0);
        Due.due("a TEXT", Due.text(x, 1, "0;0@3;1@3 4:0,-2*1;2@9 5;2@4:3*2;"), 5);
        Due.isTrue("what it told", Due.shape(x, 1).equals(
            "0@0 0:0,0,0,0,0,;0@3 3:0,0,0,0,0,;1@3 4:1,-2,0,0,0,;2@9 5:0,0,0,0,0,;2@4 4:0,0,3,0,0,;"));
        String was = Due.shape(x, 1);
        Due.due("a FAULT", Due.text(x, 1, "0;x"), -102);
        Due.isTrue("changes nothing", was.equals(Due.shape(x, 1)));
        Due.due("but that THE TAPE is used up", x.many(3), 0);
        Due.due("with blanks", Due.text(x, 2, "  00 @ 01  2 ;1 @3 4: - 9 * 00 ; "), 2);
        Due.isTrue("what it told", Due.shape(x, 2).equals("0@1 2:0,0,;1@3 4:-9,0,;"));
        Due.due("a BROKEN one", Due.text(x, 3, "0;1:0;2:1;"), 3);
        Due.due("is BROKEN", x.broken(3), 33);
        Due.due("twelve CELLS", Due.text(x, 3, "0;1:0;0;0;0;0;0;0;0;0;0;1:10 ; "), 12);
        Due.due("an ENTRY of CELL 10", x.entryOf(3, 11, 10), 11);
        Due.due("0 times", Due.text(x, 3, "0;1:-0*0;"), 2);
        Due.due("is 0", x.entryOf(3, 1, 0), 10);
    }

    private static void fault(String text, int place) {
        PagesByLevels x = new PagesByLevels();
        Due.due("text of \"" + text + "\"", Due.text(x, 0, text), -100 - place);
        Due.due("CELLS after \"" + text + "\"", x.many(0), 0);
    }

    private static void faults() {
        fault("x", 0);
        fault("\u00ff", 0);
        fault(";", 0);
        fault("0", 1);
        fault("0 ", 2);
        fault("0 0;", 2);
        fault("5;", 0);
        fault("5", 0);
        fault("10;", 0);
        fault("000;", 0);
        fault(" 0123", 1);
        fault("0:", 2);
        fault("0:;", 2);
        fault("0@", 2);
        fault("0@;", 2);
        fault("0@x", 2);
        fault("0@10;", 2);
        fault("0@1 10;", 4);
        fault("0@1 001;", 4);
        fault("0@ 123;", 3);
        fault("0@1 2 3;", 6);
        fault("0@1,2;", 3);
        fault("0@1 2", 5);
        fault("0@-1;", 2);
        fault("-0;", 0);
        fault("0;;", 2);
        fault("0;0;0;0;0;0;0;0;0;0;0;0; 0;", 25);
        fault("0;0;0;0;0;0;0;0;0;0;0;0;x", 24);
        fault("0;0;0;0;0;0;0;0;0;0;0;5;", 22);
        fault("0;1@1:0@", 7);
    }

    private static void faultsOfEntries() {
        fault("0;1:", 4);
        fault("0;1: ", 5);
        fault("0;1:;", 4);
        fault("0;1:-", 5);
        fault("0;1:--0;", 5);
        fault("0;1:0", 5);
        fault("0;1:0,", 6);
        fault("0;1:0,;", 6);
        fault("0;1:0;,", 6);
        fault("0;1:1;", 4);
        fault("0;1:2;", 4);
        fault("0;1:12;", 4);
        fault("0;1:000;", 4);
        fault("0;1:0*", 6);
        fault("0;1:0*;", 6);
        fault("0;1:0*-0;", 6);
        fault("0;1:0*0*0;", 7);
        fault("0;1:10*0;", 4);
        fault("0;1: 10 * 9;", 5);
        fault("0;1:9* 1;", 7);
        fault("0;1:9*000;", 6);
        fault("0;0;1:0,1,0*0;", 12);
        fault("0;1:0,-0;", 7);
        fault("0;1:0*0,0;", 8);
        fault("0;0:0;", 4);
        fault("0;2:0;", 4);
        fault("1;0:0;", 4);
        fault("0@1;1:0;", 6);
        fault("0@0 1;1@5 0:0;", 12);
        fault("0;1:0 0;", 6);
        fault("0;1:0:0;", 5);
    }

    /** THE TAPE ends behind an ENTRY's N: more must come, if a * or what follows a CELL's number may. */
    private static void faultsAtTheEnd() {
        fault(" 3 : - 4", 8);
        fault("3:4  ", 5);
        fault("0;1:1", 5);
        fault("0;1:5 ", 6);
        fault("0;1:09", 6);
        fault("0;1:00", 6);
        fault("0;2:0", 5);
        fault("0@1;1:0", 7);
        fault("0;1:0,0", 7);
        fault("0;1:0,-0 ", 9);
        // What is more than 9 tells no "how often", so that it can be a CELL's number alone.
        fault("0;1:10", 4);
        fault("0;1: 12 ", 5);
        fault("0;1:-99", 5);
        fault("0;0;0;0;0;0;0;0;0;0;0;1:10", 26);
        fault("0;0;0;0;0;0;0;0;0;0;1;1:10", 24);
        fault("0;0;0;0;0;0;0;0;0;0;0;1:10,10", 27);
        fault("0;1:000", 4);
        // Behind a *, N is a CELL's number.
        fault("0;1:2*1", 6);
        fault("0;1:2* 0", 8);
        fault("0;1:2*0,2*0", 10);
        fault("0;1:0*0 ", 8);
    }

    private static void textEdges() {
        PagesByLevels x = new PagesByLevels();
        Due.due("all ENTRIES of the last CELL", Due.text(x, 0, "0;0;0;0;0;0;0;0;0;0;0;1:0,1,2,3,4,5,6,7,8,9,10;"), 12);
        Due.due("all are there", x.of(0, 11, 3), 11);
        Due.due("told anew for each CELL", Due.text(x, 0, "0;1:0;1:-0;"), 3);
        Due.due("a LEVEL for both WAYS", Due.text(x, 0, "0@7;"), 1);
        Due.due("the other LEVEL", x.of(0, 0, 2), 7);
        Due.due("a LEVEL of each", Due.text(x, 0, "0@7 0;"), 1);
        Due.due("the other LEVEL", x.of(0, 0, 2), 0);
        Due.due("LEVELS of the CELL ahead do not count", Due.text(x, 0, "0@7;0;"), 2);
        Due.due("the LEVEL", x.of(0, 1, 1), 0);
        Due.due("the other LEVEL", x.of(0, 1, 2), 0);
        StringBuilder long200 = new StringBuilder("0;");
        while (long200.length() < 200) {
            long200.append(' ');
        }
        Due.due("200 bytes", Due.text(x, 0, long200.toString()), 1);
        long200.setCharAt(199, '9');
        Due.due("200 bytes, the last one wrong", Due.text(x, 0, long200.toString()), -299);
    }
}
