/** Promises 19 to 22. */
public final class MadeTest {
    private static final int MIN = Integer.MIN_VALUE, MAX = Integer.MAX_VALUE;

    public static void main(String[] args) {
        times();
        timesOntoItself();
        timesFull();
        timesBad();
        part();
        partOntoItself();
        would();
        wouldRefused();
        trials();
        Due.end("MadeTest");
    }

    private static void times() {
        PagesByLevels x = Due.told("0@1 2;1@2 2:3*0;");
        Due.text(x, 1, "0@3 0;0;1@4 5:-0,2*1;");
        Due.due("times", x.times(0, 1, 2), 6);
        Due.isTrue("CELLS by x, then y; the sign turns where x is odd", Due.shape(x, 2).equals(
            "0@4 2:0,0,0,0,0,0,;0@1 2:0,0,0,0,0,0,;1@5 7:-1,2,0,0,0,0,;"
            + "1@5 2:3,0,0,0,0,0,;1@2 2:0,3,0,0,0,0,;2@6 7:0,0,3,1,-2,0,;"));
        Due.due("it is not BROKEN", x.broken(2), 0);
        Due.due("times the other way round", x.times(1, 0, 3), 6);
        Due.isTrue("CELLS in the other order", Due.shape(x, 3).equals(
            "0@4 2:0,0,0,0,0,0,;1@5 2:3,0,0,0,0,0,;0@1 2:0,0,0,0,0,0,;1@2 2:0,0,3,0,0,0,;"
            + "1@5 7:-1,0,2,0,0,0,;2@6 7:0,-1,0,2,-3,0,;"));
        Due.due("the second one stays", x.of(1, 2, 2), 5);
        Due.due("of DEGREE 2 the sign does not turn", timesOfEven(), 11);
    }

    private static int timesOfEven() {
        PagesByLevels x = Due.told("2;");
        Due.text(x, 1, "0;1:0;");
        x.times(0, 1, 2);
        return x.entryOf(2, 1, 0);
    }

    private static void timesOntoItself() {
        PagesByLevels x = Due.told("0;1@1:2*0;");
        Due.due("onto both", x.times(0, 0, 0), 4);
        Due.isTrue("what it is then", Due.shape(x, 0).equals(
            "0@0 0:0,0,0,0,;1@1 1:2,0,0,0,;1@1 1:2,0,0,0,;2@2 2:0,2,-2,0,;"));
        Due.text(x, 1, "0;0;");
        Due.due("onto the second", x.times(0, 1, 1), 8);
        Due.due("the first stays", x.many(0), 12);
        Due.due("by none", x.times(1, 3, 1), 0);
        Due.due("none is left", x.many(0), 4);
        Due.due("none by one", x.times(3, 0, 2), 0);
        Due.due("a BROKEN one is taken", timesOfBroken(), 1 + 2 * 16);
    }

    private static int timesOfBroken() {
        PagesByLevels x = Due.told("0;1:0;2:1;");
        Due.text(x, 1, "0;");
        Due.due("times of a BROKEN one", x.times(0, 1, 2), 3);
        return x.broken(2);
    }

    private static void timesFull() {
        PagesByLevels x = Due.told("0;0;0;");
        Due.text(x, 1, "0;0;0;0;");
        Due.due("twelve", x.times(0, 1, 2), 12);
        x.cell(0, 0, 0, 0);
        Due.due("sixteen", x.times(0, 1, 2), -2);
        Due.due("nothing is changed", x.many(0), 20);
        Due.due("one more than twelve", x.times(2, 2, 2), -2);
        x = Due.told("2;");
        Due.text(x, 1, "2@4 5;0;");
        Due.due("DEGREE 4", x.times(0, 1, 2), 2);
        Due.text(x, 1, "0;3;");
        Due.due("DEGREE 5", x.times(0, 1, 2), -2);
        Due.text(x, 0, "0@5 4;");
        Due.text(x, 1, "0@4 5;");
        Due.due("LEVELS 9", x.times(0, 1, 2), 1);
        Due.text(x, 1, "0;0@5 5;");
        Due.due("LEVEL 10 by WAY 0", x.times(0, 1, 2), -2);
        Due.text(x, 0, "0@0 9;");
        Due.text(x, 1, "0@9 1;");
        Due.due("LEVEL 10 by WAY 1", x.times(0, 1, 2), -2);
        Due.text(x, 0, "4@9;");
        x.clear(1);
        Due.due("none is never FULL", x.times(0, 1, 2), 0);
        Due.text(x, 1, "0;0@1 0;");
        Due.due("onto itself, FULL", x.times(0, 1, 1), -2);
        Due.due("it stays", x.of(1, 1, 1), 1);
    }

    private static void timesBad() {
        PagesByLevels x = Due.told("0;0;0;0;");
        for (int c : new int[] {-1, 4, MIN, MAX}) {
            Due.due("times of none", x.times(c, 0, 1), -1);
            Due.due("times of none", x.times(0, c, 1), -1);
            Due.due("times onto none, ahead of FULL", x.times(0, 0, c), -1);
            Due.due("part of none", x.part(c, 0, 0, 1), -1);
            Due.due("part onto none", x.part(0, 0, 0, c), -1);
        }
        for (int way : new int[] {-1, 2, MIN, MAX}) {
            Due.due("part by no WAY", x.part(0, way, 0, 1), -1);
        }
        for (int l : new int[] {-1, 10, MIN, MAX}) {
            Due.due("part of no LEVEL", x.part(0, 0, l, 1), -1);
        }
        Due.due("nothing is changed", x.many(0), 4);
    }

    private static void part() {
        PagesByLevels x = Due.told("0@1 7;0@3 0;1@3 7:0,-2*1;0@2 8;1@9:3;");
        Due.due("part by WAY 0", x.part(0, 0, 3, 1), 4);
        Due.isTrue("in order", Due.shape(x, 1).equals(
            "0@1 7:0,0,0,0,;0@3 0:0,0,0,0,;1@3 7:1,-2,0,0,;0@2 8:0,0,0,0,;"));
        Due.due("part by WAY 1", x.part(0, 1, 8, 2), 4);
        Due.due("part by WAY 1", x.part(0, 1, 0, 2), 1);
        Due.isTrue("that one", Due.shape(x, 2).equals("0@3 0:0,;"));
        Due.due("part by WAY 0 with a gap", x.part(0, 0, 2, 3), 2);
        Due.isTrue("those two", Due.shape(x, 3).equals("0@1 7:0,0,;0@2 8:0,0,;"));
        Due.due("none", x.part(0, 0, 0, 3), 0);
        Due.due("all", x.part(0, 1, 9, 3), 5);
        Due.isTrue("the same", Due.shape(x, 3).equals(Due.shape(x, 0)));
        Due.due("CELLS together", x.many(0), 5 + 4 + 1 + 5);
    }

    private static void partOntoItself() {
        PagesByLevels x = Due.told("0@2;0;1@1:4*1;");
        Due.due("part onto itself", x.part(0, 0, 1, 0), 2);
        Due.isTrue("what it is then", Due.shape(x, 0).equals("0@0 0:0,0,;1@1 1:4,0,;"));
        Due.due("part of none", x.part(1, 0, 1, 0), 0);
        Due.due("none is left", x.many(0), 0);
    }

    private static void would() {
        PagesByLevels x = Due.told("0;0;1:0,-1;1;2;");
        Due.due("left as it is", x.left(0, 3, 0), 1);
        Due.due("would it be the same", x.would(0, 2, 0, 1, 3, 0), 1);
        Due.due("3 is nothing by 3, -1 stays", x.would(0, 2, 0, 3, 3, 0), 1);
        Due.due("another CELL goes too", x.would(0, 3, 0, 2, 3, 0), 0);
        Due.due("2 is nothing by 2", x.would(0, 3, 0, 2, 2, 0), 1);
        Due.due("of DEGREE 1", x.would(0, 3, 0, 2, 3, 1), 0);
        Due.due("of DEGREE 1", x.would(0, 4, 3, -9, 5, 1), 0);
        Due.due("of DEGREE 2", x.would(0, 4, 3, -9, 3, 2), 1);
        Due.due("of DEGREE 4", x.would(0, 4, 3, 9, 3, 4), 0);
        Due.isTrue("all is as it was", Due.shape(x, 0).equals(Due.shape(Due.told("0;0;1:0,-1;1;2;"), 0)));
        Due.due("a BROKEN one might be mended", Due.told("0;1:2*0;2:1;").would(0, 2, 1, 0, 2, 1), 1);
    }

    private static void wouldRefused() {
        PagesByLevels x = Due.told("0;1;2:1;0@5;");
        int[][] bad = {{-1, 1, 0, 0, 2, 0}, {4, 1, 0, 0, 2, 0}, {0, -1, 0, 0, 2, 0}, {0, 4, 0, 0, 2, 0},
            {0, 1, -1, 0, 2, 0}, {0, 1, 4, 0, 2, 0}, {0, 1, 0, 10, 2, 0}, {0, 1, 0, -10, 2, 0},
            {0, 1, 0, 0, 1, 0}, {0, 1, 0, 0, 9, 0}, {0, 1, 0, 0, 2, -1}, {0, 1, 0, 0, 2, 5},
            {0, 0, 1, 0, 2, 0}, {0, 1, 1, 0, 2, 0}, {0, 2, 0, 0, 2, 0}, {0, 1, 3, 0, 2, 0}, {1, 1, 0, 0, 2, 0}};
        for (int[] b : bad) {
            Due.due("a bad would", x.would(b[0], b[1], b[2], b[3], b[4], b[5]), -1);
        }
        Due.due("no trials yet", x.trials(0), 0);
        Due.due("it would be BROKEN", x.would(0, 1, 0, 1, 2, 0), -4);
        Due.due("it is not", x.broken(0), 0);
        Due.due("the ENTRY stays", x.entryOf(0, 1, 0), 10);
        Due.due("BAD ahead of STATE", x.would(0, 1, 0, 1, 4, 0), -1);
    }

    private static void trials() {
        PagesByLevels x = Due.told("0;1:2*0;2:1;");
        for (int what : new int[] {-1, 3, MIN, MAX}) {
            Due.due("trials of what is not", x.trials(what), -1);
        }
        for (int what = 0; what < 3; what++) {
            Due.due("no trials at first", x.trials(what), 0);
        }
        x.mend(0);
        threeTrials(x, 10, 10, 1);
        x.would(0, 1, 0, 0, 2, 0);
        threeTrials(x, 1, 1, 1);
        x.mend(0);
        x.would(0, 1, 0, 1, 2, 0);
        threeTrials(x, 1, 1, 1);
        x.mend(0);
        x.would(0, 1, 0, 10, 2, 0);
        x.mend(-1);
        threeTrials(x, 10, 10, 1);
        x.entry(0, 1, 0, 0);
        x.keep();
        x.again();
        threeTrials(x, 10, 10, 1);
        x.mend(0);
        threeTrials(x, 0, 0, 0);
    }

    private static void threeTrials(PagesByLevels x, int opened, int closed, int atMost) {
        Due.due("opened", x.trials(0), opened);
        Due.due("closed", x.trials(1), closed);
        Due.due("open at most", x.trials(2), atMost);
    }
}
