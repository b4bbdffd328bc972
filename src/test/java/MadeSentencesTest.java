/** The sentences of the terms on TIMES and TRIALS, and of promises 19 to 22, that name a boundary case, each for itself. */
public final class MadeSentencesTest {
    public static void main(String[] args) {
        timesOrder();
        timesAdds();
        timesEdgeOfFirst();
        timesEdgeOfFirstWhole();
        timesEdgeOfSecond();
        timesOntoOneOfBoth();
        timesCells();
        timesDegrees();
        timesLevels();
        part();
        partOntoItself();
        partEntries();
        would();
        wouldTried();
        wouldBad();
        wouldBroken();
        trialsOpened();
        trialsOfLatest();
        Due.end("MadeSentencesTest");
    }

    private static PagesByLevels told(String first, String second) {
        PagesByLevels x = Due.told(first);
        Due.text(x, 1, second);
        return x;
    }

    /** One COMPLEX TIMES another one becomes COMPLEX 2. */
    private static String product(String first, String second) {
        PagesByLevels x = told(first, second);
        x.times(0, 1, 2);
        return Due.shape(x, 2);
    }

    private static void timesOrder() {
        Due.sentence("TIMES: of two COMPLEXES: a CELL for each x of the first and y of the second one, ordered by x, then y");
        Due.same("two and three", product("0;0@3;", "0;0@1;0@2;"), "0@0 0:0,0,0,0,0,0,;0@1 1:0,0,0,0,0,0,;0@2 2:0,0,0,0,0,0,;"
            + "0@3 3:0,0,0,0,0,0,;0@4 4:0,0,0,0,0,0,;0@5 5:0,0,0,0,0,0,;");
        Due.same("one and two", product("0@1;", "0;0@2;"), "0@1 1:0,0,;0@3 3:0,0,;");
        Due.same("two and one", product("0;0@2;", "0@1;"), "0@1 1:0,0,;0@3 3:0,0,;");
        Due.same("none and two", product("", "0;0@2;"), "");
        Due.same("two and none", product("0;0@2;", ""), "");
        Due.same("none and none", product("", ""), "");
    }

    private static void timesAdds() {
        Due.sentence("DEGREES, LEVELS added.");
        Due.same("the least", product("0;", "0;"), "0@0 0:0,;");
        Due.same("the greatest", product("1@4 5;", "3@5 4;"), "4@9 9:0,;");
        Due.same("all of the first", product("4@9;", "0;"), "4@9 9:0,;");
        Due.same("all of the second", product("0;", "4@9;"), "4@9 9:0,;");
        Due.same("each by its WAY", product("2@1 2;", "1@3 5;"), "3@4 7:0,;");
        Due.same("of two and two", product("0@1 2;2@0 4;", "2@3 0;1@5 5;"),
            "2@4 2:0,0,0,0,;1@6 7:0,0,0,0,;4@3 4:0,0,0,0,;3@5 9:0,0,0,0,;");
    }

    private static void timesEdgeOfFirst() {
        Due.sentence("ENTRY in its EDGE: of x' and y: that of x' in EDGE of x;");
        for (int v = -9; v <= 9; v++) {
            PagesByLevels x = told("0;1:" + (v < 0 ? "-" : "") + Math.abs(v) + "*0;", "1;3;0;");
            Due.due("times", x.times(0, 1, 2), 6);
            for (int i = 0; i < 3; i++) {
                for (int k = 0; k < 3; k++) {
                    Due.due("ENTRY " + v + " at like y", x.entryOf(2, 3 + i, k), 10 + (i == k ? v : 0));
                }
            }
        }
    }

    private static void timesEdgeOfFirstWhole() {
        Due.sentence("that of x' in EDGE of x;");
        String[] told = {"0;1:2*0;1:3*0;2;1:4*0;", "0;0;0;1:5*2;", "0;0;0;0;1:-1,7*3;", "0;1:0;2;3:8*2;4:-9*3;"};
        for (String text : told) {
            Due.same("by one CELL", product(text, "0;"), Due.shape(Due.told(text), 0));
            Due.same("one CELL by it", product("0;", text), Due.shape(Due.told(text), 0));
        }
    }

    private static void timesEdgeOfSecond() {
        Due.sentence("of x and y': that of y' in EDGE of y, with its sign turned if the DEGREE of x is odd.");
        for (int degree = 0; degree <= 3; degree++) {
            for (int v : new int[] {-9, -1, 0, 1, 9}) {
                PagesByLevels x = told(degree + ";" + degree + "@1;", "0;1:" + (v < 0 ? "-" : "") + Math.abs(v) + "*0;");
                Due.due("times", x.times(0, 1, 2), 4);
                int turned = degree % 2 == 1 ? -v : v;
                Due.due(v + " by DEGREE " + degree, x.entryOf(2, 1, 0), 10 + turned);
                Due.due(v + " by DEGREE " + degree + ", the second x", x.entryOf(2, 3, 2), 10 + turned);
                Due.due("none of another x", x.entryOf(2, 3, 0), 10);
            }
        }
        PagesByLevels x = told("0;1:2*0;", "0;1:3*0;");
        x.times(0, 1, 2);
        Due.due("so that it is not BROKEN", x.broken(2), 0);
    }

    private static void timesOntoOneOfBoth() {
        Due.sentence("A COMPLEX (one of both, too) becomes one TIMES another one: how many CELLS.");
        String want = product("0;1@1:2*0;", "0@1;1@2:-3*0;0;");
        PagesByLevels x = told("0;1@1:2*0;", "0@1;1@2:-3*0;0;");
        String second = Due.shape(x, 1);
        Due.due("onto the first", x.times(0, 1, 0), 6);
        Due.same("onto the first", Due.shape(x, 0), want);
        Due.same("the second stays", Due.shape(x, 1), second);
        x = told("0;1@1:2*0;", "0@1;1@2:-3*0;0;");
        String first = Due.shape(x, 0);
        Due.due("onto the second", x.times(0, 1, 1), 6);
        Due.same("onto the second", Due.shape(x, 1), want);
        Due.same("the first stays", Due.shape(x, 0), first);
        want = product("0@1;1@2:-3*0;0;", "0@1;1@2:-3*0;0;");
        x = Due.told("0@1;1@2:-3*0;0;");
        Due.due("itself onto itself", x.times(0, 0, 0), 9);
        Due.same("itself onto itself", Due.shape(x, 0), want);
        x = told("", "0;1:0;");
        Due.due("none by it, onto it", x.times(0, 1, 1), 0);
        Due.due("none is left", x.many(0), 0);
        x = told("0;", Scene.TEXTS[2]);
        Due.due("what was there is gone", x.times(0, 0, 1), 1);
        Due.due("one of each", x.many(0), 2);
    }

    private static void timesCells() {
        Due.sentence("FULL: more than 12 CELLS, a DEGREE above 4, a LEVEL above 9.");
        for (int first = 0; first <= 12; first++) {
            for (int second = 0; second <= 12; second++) {
                PagesByLevels x = told("0;".repeat(first), "0;".repeat(second));
                boolean fits = first * second <= 12;
                Due.due(first + " and " + second, x.times(0, 1, 2), fits ? first * second : -2);
                Due.due("CELLS then", x.many(0), first + second + (fits ? first * second : 0));
            }
        }
    }

    private static void timesDegrees() {
        Due.sentence("a DEGREE above 4, a LEVEL above 9.");
        for (int first = 0; first <= 4; first++) {
            for (int second = 0; second <= 4; second++) {
                PagesByLevels x = told("0;" + first + ";", second + ";0;");
                Due.due("DEGREES " + first + " and " + second, x.times(0, 1, 2), first + second <= 4 ? 4 : -2);
            }
        }
        Due.due("DEGREE 4 by none", told("4;", "").times(0, 1, 2), 0);
        Due.due("none by DEGREE 4", told("", "4;").times(0, 1, 2), 0);
        Due.due("onto itself", told("4;", "1;").times(0, 1, 0), -2);
    }

    private static void timesLevels() {
        Due.sentence("a LEVEL above 9.");
        for (int first = 0; first <= 9; first++) {
            for (int second = 0; second <= 9; second++) {
                int want = first + second <= 9 ? 4 : -2;
                PagesByLevels x = told("0;0@" + first + " 0;", "0@" + second + " 0;0;");
                Due.due("LEVELS " + first + " and " + second + " by WAY 0", x.times(0, 1, 2), want);
                x = told("0;0@0 " + first + ";", "0@0 " + second + ";0;");
                Due.due("LEVELS " + first + " and " + second + " by WAY 1", x.times(0, 1, 2), want);
                x = told("0@" + first + " 0;", "0@0 " + second + ";");
                Due.due("those of two WAYS are not added", x.times(0, 1, 2), 1);
            }
        }
        Due.due("LEVELS 9 by none", told("0@9;", "").times(0, 1, 2), 0);
    }

    private static void part() {
        Due.sentence("A COMPLEX becomes the CELLS of one that have a LEVEL of l or less by a WAY, in order: how many.");
        String text = "0@0 9;0@9 0;0@1 8;0@8 1;0@5;";
        int[] byLevel = {1, 2, 2, 2, 2, 3, 3, 3, 4, 5};
        for (int l = 0; l <= 9; l++) {
            Due.due("of " + l + " by WAY 0", Due.told(text).part(0, 0, l, 1), byLevel[l]);
            Due.due("of " + l + " by WAY 1", Due.told(text).part(0, 1, l, 1), byLevel[l]);
        }
        Due.due("of -1: BAD", Due.told(text).part(0, 0, -1, 1), -1);
        Due.due("of 10: BAD", Due.told(text).part(0, 0, 10, 1), -1);
        PagesByLevels x = Due.told(text);
        x.part(0, 0, 5, 1);
        Due.same("by WAY 0, in order", Due.shape(x, 1), "0@0 9:0,0,0,;0@1 8:0,0,0,;0@5 5:0,0,0,;");
        x.part(0, 1, 5, 1);
        Due.same("by WAY 1, in order", Due.shape(x, 1), "0@9 0:0,0,0,;0@8 1:0,0,0,;0@5 5:0,0,0,;");
        Due.due("of no CELLS", x.part(3, 0, 9, 1), 0);
        Due.due("what was there is gone", x.many(1), 1);
    }

    private static void partOntoItself() {
        Due.sentence("A COMPLEX becomes the CELLS of one");
        PagesByLevels x = Due.told("0@9;0;1@9:2*0,3*1;1:4*1;");
        Due.due("onto itself", x.part(0, 1, 8, 0), 2);
        Due.same("what is left", Due.shape(x, 0), "0@0 0:0,0,;1@0 0:4,0,;");
        Due.due("all, onto itself", x.part(0, 1, 9, 0), 2);
        Due.same("the same", Due.shape(x, 0), "0@0 0:0,0,;1@0 0:4,0,;");
        x = Due.told("0@9;");
        Due.due("none, onto itself", x.part(0, 0, 8, 0), 0);
        Due.due("none is left", x.many(0), 0);
    }

    private static void partEntries() {
        Due.sentence("the CELLS of one that have a LEVEL of l or less by a WAY, in order");
        PagesByLevels x = Due.told("0@3 0;0;1@3 0:-9*0,9*1;2@4 0:7*2;1@3 4:8*0;");
        x.part(0, 0, 3, 2);
        Due.same("with their ENTRIES", Due.shape(x, 2), "0@3 0:0,0,0,0,;0@0 0:0,0,0,0,;1@3 0:-9,9,0,0,;1@3 4:8,0,0,0,;");
        x.part(0, 1, 3, 2);
        Due.due("it may be BROKEN", x.broken(2), 1 + 16 * 3);
        x = Due.told("0@9 0;0@0 9;0@0 0;1@5 9:2*1,3*2;");
        x.part(0, 0, 5, 2);
        Due.same("by WAY 0 alone", Due.shape(x, 2), "0@0 9:0,0,0,;0@0 0:0,0,0,;1@5 9:2,3,0,;");
        x = Due.told("0@0 9;0@9 0;0@0 0;1@9 5:2*1,3*2;");
        x.part(0, 1, 5, 2);
        Due.same("by WAY 1 alone", Due.shape(x, 2), "0@9 0:0,0,0,;0@0 0:0,0,0,;1@9 5:2,3,0,;");
        Due.due("full ones", fullParts(), 12);
    }

    private static int fullParts() {
        PagesByLevels x = Due.told(Scene.TEXTS[2]);
        int most = x.part(0, 0, 9, 1);
        Due.same("the same", Due.shape(x, 1), Due.shape(Due.told(Scene.TEXTS[2]), 0));
        return most;
    }

    private static void would() {
        Due.sentence("LEFT of a DEGREE by p, if ENTRY of y in EDGE of x were v (tried).");
        for (int v = -9; v <= 9; v++) {
            PagesByLevels x = Due.told("0;1:5*0;");
            for (int p : new int[] {2, 3, 5, 7}) {
                Due.due("DEGREE 0 by " + p + ", " + v, x.would(0, 1, 0, v, p, 0), v % p == 0 ? 1 : 0);
                Due.due("DEGREE 1 by " + p + ", " + v, x.would(0, 1, 0, v, p, 1), v % p == 0 ? 1 : 0);
                Due.due("DEGREE 4 by " + p + ", " + v, x.would(0, 1, 0, v, p, 4), 0);
            }
            Due.due("it is as it was", x.entryOf(0, 1, 0), 15);
        }
        PagesByLevels x = Due.told("0;1:5*0;");
        Due.due("v -10", x.would(0, 1, 0, -10, 2, 0), -1);
        Due.due("v 10", x.would(0, 1, 0, 10, 2, 0), -1);
        Due.due("DEGREE -1", x.would(0, 1, 0, 0, 2, -1), -1);
        Due.due("DEGREE 5", x.would(0, 1, 0, 0, 2, 5), -1);
    }

    private static void wouldTried() {
        Due.sentence("it is closed, and all is as it was.");
        PagesByLevels x = Due.told("0;0;1:2*0,3*1;1:4*0,5*1;");
        String was = Due.shape(x, 0);
        int[] answers = {x.left(0, 7, 0), x.would(0, 2, 1, 6, 7, 0), x.left(0, 7, 0), x.broken(0)};
        int[] want = {0, 1, 0, 0};
        for (int i = 0; i < 4; i++) {
            Due.due("left, would, left, broken: " + i, answers[i], want[i]);
        }
        Due.same("after would", Due.shape(x, 0), was);
        x = Due.told(Scene.TEXTS[1]);
        was = Due.shape(x, 0);
        x.mend(0);
        Due.same("after mend", Due.shape(x, 0), was);
        x.would(0, 1, 0, 9, 2, 0);
        Due.same("after would, which was refused", Due.shape(x, 0), was);
        Due.due("many of them are BROKEN yet", x.many(2), 1);
    }

    private static void wouldBad() {
        Due.sentence("BAD: also a y that may have none there; STATE: it would be BROKEN.");
        PagesByLevels x = Due.told("0;1;2;0@1 0;0@0 1;");
        int[][] pairs = {{1, 1}, {0, 1}, {2, 0}, {0, 0}, {1, 3}, {1, 4}, {1, 2}};
        for (int[] pair : pairs) {
            Due.due(pair[1] + " in EDGE of " + pair[0], x.would(0, pair[0], pair[1], 0, 2, 0), -1);
        }
        Due.due("1 in EDGE of 2", x.would(0, 2, 1, 1, 2, 1), 0);
        Due.due("0 in EDGE of 1", x.would(0, 1, 0, 1, 2, 0), 2);
    }

    private static void wouldBroken() {
        Due.sentence("STATE: it would be BROKEN.");
        PagesByLevels x = Due.told("0;1:2*0;1:3*0;2:3*1,-2*2;");
        Due.due("as it is", x.would(0, 3, 1, 3, 2, 1), x.left(0, 2, 1));
        for (int v = -9; v <= 9; v++) {
            Due.due("3 becomes " + v, x.would(0, 3, 1, v, 7, 1), v == 3 ? 0 : -4);
        }
        x = Due.told(Scene.TEXTS[1]);
        Due.due("it is BROKEN, and would be", x.would(0, 1, 0, 1, 2, 0), -4);
        Due.due("it is BROKEN, and would not be", x.would(0, 1, 0, 0, 2, 0), 1);
        Due.due("it is BROKEN, and would not be", x.would(0, 2, 1, 0, 5, 0), 0);
    }

    private static void threeTrials(String what, PagesByLevels x, int opened, int closed, int atMost) {
        Due.due(what + ": opened", x.trials(0), opened);
        Due.due(what + ": closed", x.trials(1), closed);
        Due.due(what + ": open at most", x.trials(2), atMost);
    }

    private static void trialsOpened() {
        Due.sentence("0 how many TRIALS were opened, 1 how many were closed, 2 how many were open at most.");
        PagesByLevels x = Due.told(Scene.TEXTS[1]);
        threeTrials("none at first", x, 0, 0, 0);
        x.mend(0);
        threeTrials("mend", x, 10, 10, 1);
        x.would(0, 1, 0, 0, 2, 0);
        threeTrials("would", x, 1, 1, 1);
        x = Due.told("0;1:3*0;1:2*0;2:3*1,4*2;");
        x.mend(0);
        threeTrials("mend that finds none", x, 76, 76, 1);
        x.would(0, 1, 0, 9, 2, 0);
        threeTrials("would that answers STATE", x, 1, 1, 1);
        x.mend(3);
        threeTrials("mend of one that is not BROKEN", x, 0, 0, 0);
        Due.due("3 of TRIALS", x.trials(3), -1);
        Due.due("-1 of TRIALS", x.trials(-1), -1);
    }

    private static void trialsOfLatest() {
        Due.sentence("Of the latest mend() or would() that was not BAD");
        PagesByLevels x = Due.told(Scene.TEXTS[1]);
        x.mend(0);
        x.mend(4);
        x.mend(-1);
        threeTrials("mend that was BAD", x, 10, 10, 1);
        int[][] bad = {{4, 1, 0, 0, 2, 0}, {0, 3, 0, 0, 2, 0}, {0, 1, 3, 0, 2, 0}, {0, 2, 0, 0, 2, 0}, {0, 1, 0, 10, 2, 0},
            {0, 1, 0, 0, 4, 0}, {0, 1, 0, 0, 2, 5}};
        for (int[] b : bad) {
            Due.due("would that is BAD", x.would(b[0], b[1], b[2], b[3], b[4], b[5]), -1);
            threeTrials("would that was BAD", x, 10, 10, 1);
        }
        x.entry(0, 1, 0, 0);
        x.keep();
        x.again();
        x.clear(0);
        threeTrials("other calls", x, 10, 10, 1);
        x.mend(0);
        threeTrials("the latest", x, 0, 0, 0);
    }
}
