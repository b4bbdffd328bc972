/** The sentences of part 1 of the terms and of promises 1 to 8 that name a boundary case, each for itself. */
public final class ComplexSentencesTest {
    private static final int[] PRIMES = {2, 3, 5, 7};

    public static void main(String[] args) {
        complexes();
        calls512();
        degreesAndLevels();
        entriesByDegree();
        entriesByLevel();
        entriesByNumber();
        brokenTogether();
        before();
        leavesByPrime();
        whileThereIsALast();
        takenAwayByPrime();
        reducedToNothing();
        goWithOne();
        newObject();
        clear();
        cell();
        entry();
        entryOf();
        of();
        broken();
        mend();
        mendLeastAndGreatest();
        mendNone();
        mendLeavesOthers();
        Due.end("ComplexSentencesTest");
    }

    private static void complexes() {
        Due.sentence("COMPLEXES 0 to 3, each of CELLS 0, 1, .. (12 at most; none at first).");
        PagesByLevels x = new PagesByLevels();
        for (int c = 0; c < 4; c++) {
            Due.due("no CELL 0 at first in " + c, x.of(c, 0, 0), -1);
            Due.due("none at first in " + c, x.clear(c), 0);
        }
        for (int c = 0; c < 4; c++) {
            for (int i = 0; i < 12; i++) {
                Due.due("of " + c, x.cell(c, 0, c, i % 10), i);
            }
        }
        for (int c = 0; c < 4; c++) {
            Due.due("a thirteenth of " + c, x.cell(c, 0, 0, 0), -2);
            Due.due("the first of " + c, x.of(c, 0, 1), c);
            Due.due("the last of " + c, x.of(c, 11, 2), 1);
            Due.due("none behind the last of " + c, x.of(c, 12, 0), -1);
        }
        Due.due("all are full", x.many(0), 48);
        x.clear(2);
        Due.due("numbers begin anew", x.cell(2, 0, 0, 0), 0);
        Due.due("the others are full yet", x.cell(3, 0, 0, 0), -2);
    }

    private static void calls512() {
        Due.sentence("An object is used for at most 512 calls after it has been made");
        PagesByLevels x = new PagesByLevels();
        for (int call = 1; call <= 512; call++) {
            Due.due("call " + call, call % 13 == 0 ? x.clear(3) : x.cell(3, 4, 9, 9), call % 13 == 0 ? 12 : call % 13 - 1);
        }
    }

    private static void degreesAndLevels() {
        Due.sentence("A CELL has a DEGREE (0 to 4) and a LEVEL for each of two WAYS, 0 and 1 (0 to 9 each).");
        PagesByLevels x = new PagesByLevels();
        Due.due("the least of all", x.cell(0, 0, 0, 0), 0);
        Due.due("the greatest of all", x.cell(0, 4, 9, 9), 1);
        Due.due("of WAY 0 the least, of WAY 1 the greatest", x.cell(0, 2, 0, 9), 2);
        Due.due("of WAY 0 the greatest, of WAY 1 the least", x.cell(0, 2, 9, 0), 3);
        Due.due("a DEGREE of -1", x.cell(0, -1, 0, 0), -1);
        Due.due("a DEGREE of 5", x.cell(0, 5, 0, 0), -1);
        Due.due("a LEVEL of -1 by WAY 0", x.cell(0, 0, -1, 0), -1);
        Due.due("a LEVEL of 10 by WAY 0", x.cell(0, 0, 10, 0), -1);
        Due.due("a LEVEL of -1 by WAY 1", x.cell(0, 0, 0, -1), -1);
        Due.due("a LEVEL of 10 by WAY 1", x.cell(0, 0, 0, 10), -1);
        int[][] want = {{0, 0, 0}, {4, 9, 9}, {2, 0, 9}, {2, 9, 0}};
        for (int cell = 0; cell < 4; cell++) {
            for (int what = 0; what < 3; what++) {
                Due.due("of " + cell + ", " + what, x.of(0, cell, what), want[cell][what]);
            }
        }
        Due.due("no more CELLS", x.of(0, 4, 0), -1);
    }

    private static void entriesByDegree() {
        Due.sentence("one for each CELL of a DEGREE less");
        for (int of = 0; of <= 4; of++) {
            for (int in = 0; in <= 4; in++) {
                PagesByLevels x = new PagesByLevels();
                x.cell(0, of, 3, 3);
                x.cell(0, in, 3, 3);
                Due.due("DEGREE " + in + " in EDGE of " + of, x.entry(0, 0, 1, 9), in == of - 1 ? 10 : -1);
                Due.due("what it is then", x.entryOf(0, 0, 1), in == of - 1 ? 19 : 10);
            }
            PagesByLevels x = new PagesByLevels();
            x.cell(0, of, 3, 3);
            Due.due("of itself", x.entry(0, 0, 0, 9), -1);
        }
    }

    private static void entriesByLevel() {
        Due.sentence("of which neither LEVEL is above its own");
        int[][] may = {{5, 4}, {4, 4}, {0, 0}, {5, 0}, {0, 4}};
        int[][] mayNot = {{6, 4}, {5, 5}, {6, 5}, {9, 0}, {0, 9}, {6, 0}, {0, 5}};
        for (int[] levels : may) {
            Due.due("LEVELS " + levels[0] + " and " + levels[1], entryAt(5, 4, levels[0], levels[1]), 10);
        }
        for (int[] levels : mayNot) {
            Due.due("LEVELS " + levels[0] + " and " + levels[1], entryAt(5, 4, levels[0], levels[1]), -1);
        }
        Due.due("the least", entryAt(0, 0, 0, 0), 10);
        Due.due("one above the least by WAY 0", entryAt(0, 0, 1, 0), -1);
        Due.due("one above the least by WAY 1", entryAt(0, 0, 0, 1), -1);
        Due.due("the greatest", entryAt(9, 9, 9, 9), 10);
    }

    private static int entryAt(int level, int other, int ofLevel, int ofOther) {
        PagesByLevels x = new PagesByLevels();
        x.cell(1, 1, level, other);
        x.cell(1, 0, ofLevel, ofOther);
        return x.entry(1, 0, 1, 1);
    }

    private static void entriesByNumber() {
        Due.sentence("EDGE of a CELL: whole numbers (-9 to 9)");
        PagesByLevels x = Due.told("0;1;");
        int was = 0;
        for (int v = -9; v <= 9; v++) {
            Due.due("ENTRY becomes " + v, x.entry(0, 1, 0, v), 10 + was);
            was = v;
        }
        Due.due("one above", x.entry(0, 1, 0, 10), -1);
        Due.due("one below", x.entry(0, 1, 0, -10), -1);
        Due.due("it stays", x.entryOf(0, 1, 0), 19);
        Due.sentence("(0 at first): ENTRIES.");
        x = new PagesByLevels();
        for (int round = 0; round < 2; round++) {
            for (int i = 0; i < 12; i++) {
                x.cell(0, i % 2, 0, 0);
            }
            for (int i = 0; i < 144; i++) {
                if (i / 12 % 2 == 1 && i % 2 == 0) {
                    Due.due("ENTRY of " + i % 12 + " in EDGE of " + i / 12, x.entry(0, i / 12, i % 12, 9), 10);
                }
            }
            x.clear(0);
        }
    }

    private static void brokenTogether() {
        Due.sentence("of all CELLS between: ENTRY of one in EDGE of x, times ENTRY of y in EDGE of that one, together, is not 0.");
        Due.due("one between", Due.told("0;1:0;2:1;").broken(0), 33);
        Due.due("none between", Due.told("0;1:0;2;").broken(0), 0);
        Due.due("the other one is between", Due.told("0;1:0;1;2:2;").broken(0), 0);
        Due.due("two that are nothing together", Due.told("0;1:0;1:0;2:1,-2;").broken(0), 0);
        Due.due("two that are not", Due.told("0;1:0;1:0;2:1,2;").broken(0), 49);
        Due.due("210 is nothing by 2, 3, 5 and 7, but not 0", Due.told("0;1:9*0;1:9*0;1:8*0;2:9*1,9*2,6*3;").broken(0), 65);
        PagesByLevels x = tenBetween(9, -9);
        Due.due("ten between, nothing together", x.broken(0), 0);
        x.entry(0, 11, 10, -8);
        Due.due("ten between, 9 together", x.broken(0), 1 + 16 * 11);
        Due.due("ten between, 810 together", tenBetween(9, 9).broken(0), 1 + 16 * 11);
        Due.due("ten between, -810 together", tenBetween(-9, -9).broken(0), 1 + 16 * 11);
        Due.due("DEGREE 4", Due.told("2;3:0;4:1;").broken(0), 33);
    }

    /** CELL 11 of DEGREE 2, CELLS 1 to 10 between, CELL 0. */
    private static PagesByLevels tenBetween(int even, int odd) {
        PagesByLevels x = new PagesByLevels();
        for (int i = 0; i < 12; i++) {
            x.cell(0, i == 0 ? 0 : i == 11 ? 2 : 1, 0, 0);
        }
        for (int i = 1; i <= 10; i++) {
            x.entry(0, i, 0, 9);
            x.entry(0, 11, i, i % 2 == 0 ? even : odd);
        }
        return x;
    }

    private static void before() {
        Due.sentence("a CELL stands before another one if its LEVEL is less;");
        PagesByLevels x = Due.told("0@1 2;0@2 1;1@2 2:0,1;");
        Due.due("by WAY 0 CELL 1 is the last", x.goes(0, 0, 2, 2), 1);
        Due.due("by WAY 1 CELL 0 is the last", x.goes(0, 1, 2, 2), 0);
        Due.due("one LEVEL is enough", Due.told("0@9;0@8;1@9:0,1;").goes(0, 0, 2, 2), 0);
        x = Due.told("0;0;1@2 1:0,1;1@1 2:1;");
        Due.due("by WAY 0 CELL 3 is ahead", x.goes(0, 0, 2, 1), 3);
        Due.due("by WAY 1 CELL 2 is ahead", x.goes(0, 1, 2, 1), 2);
        Due.sentence("of like LEVELS, if its DEGREE is;");
        x = new PagesByLevels();
        x.cell(0, 1, 4, 4);
        x.cell(0, 0, 4, 4);
        x.entry(0, 0, 1, 1);
        Due.due("the number does not count", x.goes(0, 0, 7, 0), 1);
        Due.due("the number does not count", x.goes(0, 1, 7, 1), 0);
        x = Due.told("1@2;0@5;0@2;1@5:1,2;");
        Due.due("LEVEL 2 and DEGREES 0 and 1, then LEVEL 5", x.goes(0, 0, 2, 3), 1);
        Due.due("LEVEL 2 and DEGREES 0 and 1, then LEVEL 5", x.goes(0, 1, 2, 3), 1);
        Due.sentence("of like ones, if its number is.");
        x = Due.told("0;0;1:0,1;1:1,0;");
        for (int way = 0; way < 2; way++) {
            Due.due("the greater number is the last", x.goes(0, way, 3, 2), 1);
            Due.due("the lesser number is ahead", x.goes(0, way, 3, 1), 2);
            Due.due("the greater number stays", x.goes(0, way, 3, 3), -3);
        }
    }

    private static void leavesByPrime() {
        Due.sentence("each ENTRY being what it leaves by p (0 to p - 1).");
        for (int p : PRIMES) {
            PagesByLevels x = Due.told("0;1;");
            for (int v = -9; v <= 9; v++) {
                x.entry(0, 1, 0, v);
                int leaves = v;
                while (leaves < 0) {
                    leaves += p;
                }
                while (leaves >= p) {
                    leaves -= p;
                }
                Due.due(v + " by " + p, x.reduced(0, 0, p, 1, 0), leaves);
                Due.due(v + " by " + p + " goes", x.goes(0, 1, p, 1), leaves == 0 ? -3 : 0);
            }
        }
    }

    private static void whileThereIsALast() {
        Due.sentence("While there is a last CELL in it (in that order) with an ENTRY that is not 0, and a CELL ahead has that "
            + "one last in what it was REDUCED to: that is taken away");
        PagesByLevels x = Due.told("0;0;0;0;0;0;1:5;1:5,4;1:5,4,3;1:5,4,3,2;1:5,4,3,2,1;1:5,4,3,2,1,0;");
        for (int p : PRIMES) {
            for (int i = 0; i < 6; i++) {
                Due.due("of " + (6 + i) + " all ahead are taken away, by " + p, x.goes(0, 0, p, 6 + i), 5 - i);
                for (int y = 0; y < 6; y++) {
                    Due.due("what is left of " + (6 + i), x.reduced(0, 0, p, 6 + i, y), y == 5 - i ? 1 : 0);
                }
            }
        }
        x = Due.told("0;0;0;1:1,2;1:0,2;");
        Due.due("a CELL behind does not count", x.reduced(0, 0, 3, 3, 1), 1);
        Due.due("a CELL ahead does", x.reduced(0, 0, 3, 4, 2), 0);
        Due.due("what was ahead is taken from all of it", x.reduced(0, 0, 3, 4, 1), 2);
        Due.due("and the rest stays", x.reduced(0, 0, 3, 4, 0), 1);
        Due.due("it goes with the last that is left", x.goes(0, 0, 3, 4), 1);
        x = Due.told("0;0;1:1;1:0,1;1:0;");
        Due.due("CELL 3 is REDUCED to CELL 0", x.reduced(0, 0, 2, 3, 0), 1);
        Due.due("so that nothing of CELL 4 is left: not its EDGE counts", x.goes(0, 0, 2, 4), -3);
    }

    private static void takenAwayByPrime() {
        Due.sentence("so many times that the ENTRY of that last one is 0 (all by p).");
        for (int p : PRIMES) {
            PagesByLevels x = Due.told("0;0;1;1;");
            for (int a = 1; a < p; a++) {
                x.entry(0, 2, 1, a);
                x.entry(0, 2, 0, 1);
                for (int b = 1; b < p; b++) {
                    x.entry(0, 3, 1, b);
                    int first = 0;
                    int last = b;
                    while (last != 0) {
                        last = (last + p - a) % p;
                        first = (first + p - 1) % p;
                    }
                    Due.due(a + " from " + b + " by " + p, x.reduced(0, 0, p, 3, 1), 0);
                    Due.due(a + " from " + b + " by " + p + ": the other one", x.reduced(0, 0, p, 3, 0), first);
                }
            }
        }
    }

    private static void reducedToNothing() {
        Due.sentence("What is left is what it is REDUCED to.");
        PagesByLevels x = Due.told("0;0;1:2*0,3*1;1:2*0,3*1;1:4*0,6*1;1:2*0;");
        Due.due("nothing is left of the same", x.reduced(0, 0, 5, 3, 0), 0);
        Due.due("nothing is left of the same", x.reduced(0, 0, 5, 3, 1), 0);
        Due.due("nothing is left of twice as much", x.reduced(0, 0, 5, 4, 0), 0);
        Due.due("what was ahead stands", x.reduced(0, 0, 5, 2, 0), 2);
        Due.due("what was ahead stands", x.reduced(0, 0, 5, 2, 1), 3);
        Due.due("the last one is as told", x.reduced(0, 0, 5, 5, 0), 2);
        Due.sentence("A CELL that goes with none STAYS.");
        Due.due("of what is nothing", x.goes(0, 0, 5, 3), -3);
        Due.due("of twice as much", x.goes(0, 0, 5, 4), -3);
        Due.due("of no EDGE at all", Due.told("2;").goes(0, 1, 7, 0), -3);
    }

    private static void goWithOne() {
        Due.sentence("The CELL GOES WITH that last one, if there is one, and that one with it.");
        PagesByLevels x = Due.told("0;0;0;1@1:-0,1;1@1:-1,2;1@2:-0,2;2@3:3,4,-5;3;");
        int[] with = {-3, 3, 4, 1, 2, 6, 5, -3};
        for (int cell = 0; cell < 8; cell++) {
            Due.due("goes of " + cell, x.goes(0, 0, 7, cell), with[cell]);
        }
        Due.sentence("(No CELL goes with two.)");
        for (int p : PRIMES) {
            x = Due.told("0;0;0;1:0,-1;1@1:1,-2;1@2:-0,2;2@3:3,4,5;1:2*0,-2*1;1@5;2@5:2*8;2@6:9*8;");
            for (int cell = 0; cell < 11; cell++) {
                int other = x.goes(0, 0, p, cell);
                Due.due("that one with it, by " + p + ": " + cell, other < 0 ? cell : x.goes(0, 0, p, other), cell);
            }
        }
    }

    private static void newObject() {
        Due.sentence("`PagesByLevels()`: No CELLS.");
        PagesByLevels x = new PagesByLevels();
        Due.due("CELLS", x.many(0), 0);
        Due.due("those that have CELLS", x.many(1), 0);
        for (int c = 0; c < 4; c++) {
            Due.due("mend", x.mend(c), -3);
            Due.due("stands", x.stands(c, 1, 7), 0);
            Due.due("left", x.left(c, 2, 0), 0);
            Due.due("FREE", x.whole(c, 4, 0), 0);
            Due.due("FACTORS", x.whole(c, 0, 1), -3);
            Due.due("page", x.page(c, 0, 3, 0, 0, 0), 0);
            Due.due("times", x.times(c, 3 - c, c), 0);
            Due.due("part", x.part(c, 0, 9, c), 0);
        }
    }

    private static void clear() {
        Due.sentence("A COMPLEX has no CELLS then: how many it had.");
        PagesByLevels x = Due.told(Scene.TEXTS[2]);
        Due.text(x, 1, "0;");
        Due.due("all full", x.clear(0), 12);
        Due.due("none", x.clear(0), 0);
        Due.due("one", x.clear(1), 1);
        Due.due("no CELL 0", x.of(1, 0, 0), -1);
        Due.due("none together", x.many(0), 0);
    }

    private static void cell() {
        Due.sentence("A CELL more: its number. BAD; FULL.");
        PagesByLevels x = new PagesByLevels();
        Due.due("the first", x.cell(1, 1, 0, 0), 0);
        Due.due("one that is BAD is none", x.cell(1, 5, 0, 0), -1);
        Due.due("the second", x.cell(1, 1, 0, 0), 1);
        for (int i = 2; i < 11; i++) {
            x.cell(1, 0, 0, 0);
        }
        Due.due("the last", x.cell(1, 0, 0, 0), 11);
        Due.due("FULL", x.cell(1, 0, 0, 0), -2);
        Due.due("FULL again", x.cell(1, 0, 0, 0), -2);
        Due.due("another is not", x.cell(2, 0, 0, 0), 0);
        Due.due("CELLS together", x.many(0), 13);
    }

    private static void entry() {
        Due.sentence("ENTRY of y in EDGE of x becomes v: 10 and what it was.");
        PagesByLevels x = Due.told(Scene.TEXTS[2]);
        Due.due("it was 9", x.entry(0, 11, 10, -9), 19);
        Due.due("it was -9", x.entry(0, 11, 0, 9), 1);
        Due.due("it was 9", x.entry(0, 11, 0, 0), 19);
        Due.due("it was 0", x.entry(0, 11, 0, 0), 10);
        Due.due("it is 0", x.entryOf(0, 11, 0), 10);
        Due.due("others stay", x.entryOf(0, 11, 10), 1);
        Due.due("others stay", x.entryOf(0, 11, 1), 10);
        Due.sentence("BAD: also a y that may have none there.");
        Due.due("of like DEGREES", x.entry(0, 0, 1, 1), -1);
        Due.due("the other way round", x.entry(0, 0, 11, 1), -1);
        Due.due("0, too", x.entry(0, 0, 11, 0), -1);
        Due.due("itself", x.entry(0, 11, 11, 1), -1);
    }

    private static void entryOf() {
        Due.sentence("10 and ENTRY of y in EDGE of x (10: it may have none there).");
        PagesByLevels x = Due.told("0;1:-9*0;1:9*0;2;0@1;");
        Due.due("the least", x.entryOf(0, 1, 0), 1);
        Due.due("the greatest", x.entryOf(0, 2, 0), 19);
        int[][] none = {{0, 0}, {0, 1}, {1, 1}, {1, 2}, {3, 0}, {3, 3}, {1, 4}, {1, 3}};
        for (int[] pair : none) {
            Due.due("none of " + pair[1] + " in EDGE of " + pair[0], x.entryOf(0, pair[0], pair[1]), 10);
        }
        Due.due("0 where there may be one", x.entryOf(0, 3, 2), 10);
    }

    private static void of() {
        Due.sentence("Of a CELL: 0 DEGREE, 1 LEVEL by WAY 0, 2 by WAY 1, 3 how many ENTRIES of its EDGE are not 0, "
            + "4 in EDGE of how many its ENTRY is not 0.");
        PagesByLevels x = Due.told("0;0;0;0;0;0;0;0;0;0;0;1@3 4:0,-1,2,-3,4,-5,6,-7,8,-9,10;");
        for (int what = 0; what < 5; what++) {
            Due.due("of the last one: " + what, x.of(0, 11, what), new int[] {1, 3, 4, 11, 0}[what]);
            Due.due("of the first one: " + what, x.of(0, 0, what), new int[] {0, 0, 0, 0, 1}[what]);
        }
        x = Due.told("0;1:0;1:-0;1:0;1:-0;1:0;1:-0;1:0;1:-0;1:0;1:-0;1:0;");
        Due.due("in EDGE of all others", x.of(0, 0, 4), 11);
        Due.due("one ENTRY of each", x.of(0, 11, 3), 1);
        x.entry(0, 11, 0, 0);
        Due.due("one less", x.of(0, 0, 4), 10);
        Due.due("none", x.of(0, 11, 3), 0);
        x = new PagesByLevels();
        for (int i = 0; i < 12; i++) {
            x.cell(0, i < 11 ? 1 : 0, 0, 0);
            x.entry(0, 0, i, 9);
        }
        Due.due("the first in its EDGE has the last", x.of(0, 0, 3), 1);
        Due.due("the last is in EDGE of the first", x.of(0, 11, 4), 1);
    }

    private static void broken() {
        Due.sentence("The first x, then y, for which it is BROKEN: 1 and 16 x and y; 0: it is not.");
        Due.due("no CELLS", new PagesByLevels().broken(3), 0);
        Due.due("the least x and y", brokenAt(0, 2, 1).broken(3), 2);
        Due.due("the greatest x", brokenAt(11, 9, 10).broken(3), 1 + 16 * 11 + 10);
        Due.due("the greatest y", brokenAt(10, 0, 11).broken(3), 1 + 16 * 10 + 11);
        Due.due("y 0", brokenAt(1, 2, 0).broken(3), 17);
        PagesByLevels x = Due.told("0;0;0;1:1,2;2:3;2:3;");
        Due.due("the first x, and its first y", x.broken(0), 1 + 16 * 4 + 1);
        x.entry(0, 3, 0, 1);
        Due.due("y 0", x.broken(0), 1 + 16 * 4);
        x.entry(0, 4, 3, 0);
        Due.due("the second x", x.broken(0), 1 + 16 * 5);
        x.entry(0, 5, 3, 0);
        Due.due("it is not", x.broken(0), 0);
    }

    /** Twelve CELLS: x of DEGREE 2, one between, y of DEGREE 0, and others of DEGREE 4. */
    private static PagesByLevels brokenAt(int x, int between, int y) {
        PagesByLevels made = new PagesByLevels();
        for (int i = 0; i < 12; i++) {
            made.cell(3, i == x ? 2 : i == between ? 1 : i == y ? 0 : 4, 0, 0);
        }
        made.entry(3, x, between, -1);
        made.entry(3, between, y, 1);
        return made;
    }

    private static void mend() {
        Due.sentence("the first CELL x, of its CELLS y of a DEGREE less and LEVELS not above the first, of v from -9 to 9 the "
            + "first, so that it is not BROKEN if ENTRY of y in EDGE of x is v");
        Due.due("of two x by which it can be, the first", Due.told("0;1:2*0;2:3*1;").mend(0), 400 + 9);
        Due.due("the second x, if the first can't", Due.told("0@1;0@2;1@2:2*0,1;2@2:2;").mend(0), 3 * 400 + 2 * 20 + 9);
        Due.due("of two y by which it can be, the first", bothMend().mend(0), 3 * 400 + 20 + 9 - 4);
        Due.due("the second y, if the first can't", Due.told("0;0;1:1;2:2;").mend(0), 2 * 400 + 20 + 9);
        Due.due("the least v", Due.told("0;1:8*0;1:9*0;2:9*1,9*2;").mend(0), 400 + 9 - 9);
        Due.due("the greatest v", Due.told("0;1:8*0;1:9*0;2:-9*1,9*2;").mend(0), 400 + 9 + 9);
        for (String above : new String[] {"0@1 0;", "0@0 1;", "0@1 1;"}) {
            PagesByLevels x = Due.told(above + "0;1:2*1;2:2;");
            Due.due("a y with a LEVEL above is none of its CELLS", x.mend(0), 2 * 400 + 20 + 9);
            Due.due("and is not tried", x.trials(0), 10);
        }
        Due.sentence("These are tried in that order, a TRIAL each, till one is found.");
        PagesByLevels x = bothMend();
        x.mend(0);
        Due.due("all 19 of CELL 1, of CELL 2, and from -9 to -4 of CELL 3", x.trials(0), 19 + 19 + 6);
        Due.due("each is closed", x.trials(1), 19 + 19 + 6);
        Due.due("one is open at a time", x.trials(2), 1);
        x = Due.told("0;1;1:0;2:2,0*1;");
        Due.due("what is as it was is tried too", x.mend(0), 2 * 400 + 9);
        Due.due("all 19 of CELL 1, and from -9 to 0 of CELL 2", x.trials(0), 19 + 10);
    }

    /** No ENTRY of CELLS 1 and 2 mends it (-10 and -2.5 would), both of CELL 3 do (-4 or -2). */
    private static PagesByLevels bothMend() {
        return Due.told("0;1:5*0;1:5*0;2:2*1,4*2;");
    }

    private static void mendLeastAndGreatest() {
        Due.sentence("MEND: 400 x and 20 y and 9 and v.");
        PagesByLevels x = new PagesByLevels();
        int[] degrees = {2, 1, 0, 1};
        for (int degree : degrees) {
            x.cell(0, degree, 0, 0);
        }
        x.entry(0, 0, 3, 9);
        x.entry(0, 1, 2, 9);
        x.entry(0, 3, 2, 9);
        Due.due("the least: x 0, y 1, v -9", x.mend(0), 20);
        Due.due("the first trial", x.trials(0), 1);
        x.entry(0, 0, 3, -9);
        Due.due("x 0, y 1, v 9", x.mend(0), 20 + 18);
        x = new PagesByLevels();
        for (int i = 0; i < 12; i++) {
            x.cell(0, i == 0 ? 0 : i < 9 ? 4 : i < 11 ? 1 : 2, 0, 0);
        }
        x.entry(0, 9, 0, 3);
        x.entry(0, 10, 0, 1);
        x.entry(0, 11, 9, -3);
        x.entry(0, 11, 10, 2);
        Due.due("the greatest: x 11, y 10, v 9", x.mend(0), 4400 + 200 + 18);
        Due.due("the last trial", x.trials(0), 4 * 19);
    }

    private static void mendNone() {
        Due.sentence("NONE: there is none, or it is not BROKEN.");
        PagesByLevels x = Due.told("0;1:3*0;1:2*0;2:3*1,4*2;");
        Due.due("there is none", x.mend(0), -3);
        Due.due("all were tried", x.trials(0), 76);
        Due.due("all were closed", x.trials(1), 76);
        Due.due("it is not BROKEN", x.mend(1), -3);
        Due.due("nothing was tried", x.trials(0), 0);
        Due.due("nothing was closed", x.trials(1), 0);
        Due.due("nothing was open", x.trials(2), 0);
        x = Due.told("0;1:9*0;1;2:9*1,1*2;0;1:4;2:5;");
        Due.due("one ENTRY can't mend two", x.mend(0), -3);
        Due.due("-10 would, which is none", Due.told("0;1:3*0;1:5*0;2:1,2*2;").mend(0), -3);
        Due.due("10 would, which is none", Due.told("0;1:3*0;1:5*0;2:-1,2*2;").mend(0), -3);
    }

    private static void mendLeavesOthers() {
        Due.sentence("(and all others are as they are)");
        PagesByLevels x = Due.told(Scene.TEXTS[1]);
        String was = Due.shape(x, 0);
        Due.due("mend", x.mend(0), 409);
        Due.same("all is as it was", Due.shape(x, 0), was);
        Due.due("it is BROKEN yet", x.broken(0), 33);
        Due.due("so it is mended", x.entry(0, 1, 0, 0), 12);
        Due.due("it is not BROKEN then", x.broken(0), 0);
    }
}
