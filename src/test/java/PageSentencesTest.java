/** The sentences of part 2 of the terms and of promises 11 to 18 that name a boundary case, each for itself. */
public final class PageSentencesTest {
    private static final int MAX = Integer.MAX_VALUE;
    private static final int[] PRIMES = {2, 3, 5, 7};

    public static void main(String[] args) {
        gap();
        page();
        pageOfStaying();
        turns();
        turnsOnlyWhatIsReduced();
        leftOfDegree();
        free();
        factors();
        factorsOfTwo();
        greatestFactors();
        factorsOneAfterAnother();
        atALevel();
        goes();
        reduced();
        pagePromised();
        turnsPromised();
        stands();
        left();
        whole();
        wholeAt();
        Due.end("PageSentencesTest");
    }

    /** CELL 0 at a LEVEL by a WAY, CELL 1 that goes with it by a GAP; by the other WAY the GAP is 0. */
    private static PagesByLevels withGap(int way, int level, int gap) {
        PagesByLevels x = new PagesByLevels();
        x.cell(0, 3, way == 0 ? level : 5, way == 0 ? 5 : level);
        x.cell(0, 4, way == 0 ? level + gap : 5, way == 0 ? 5 : level + gap);
        x.entry(0, 1, 0, -1);
        return x;
    }

    private static void gap() {
        Due.sentence("GAP of two that go together: how far their LEVELS are apart.");
        for (int way = 0; way < 2; way++) {
            for (int gap = 0; gap <= 9; gap++) {
                for (int level = 0; level + gap <= 9; level += Math.max(1, 9 - gap)) {
                    PagesByLevels x = withGap(way, level, gap);
                    Due.due("a GAP of " + gap + " turns", x.turns(0, way, 2, gap, level + gap, 4), 1);
                    Due.due("a GAP of " + gap + " stands", x.stands(0, way, 2), gap + 1);
                    Due.due("by the other WAY the GAP is 0", x.stands(0, 1 - way, 2), 1);
                }
            }
        }
    }

    private static void page() {
        Due.sentence("PAGE r (0 to 10) by a WAY and p has, at a LEVEL and a DEGREE, so many: CELLS of these that STAY, "
            + "or go with one by a GAP of r or more.");
        for (int way = 0; way < 2; way++) {
            for (int gap = 0; gap <= 9; gap++) {
                for (int r = 0; r <= 10; r++) {
                    PagesByLevels x = withGap(way, 0, gap);
                    Due.due("page " + r + " by a GAP of " + gap, x.page(0, way, 3, r, gap, 4), r <= gap ? 1 : 0);
                    Due.due("the other one", x.page(0, way, 3, r, 0, 3), r <= gap ? 1 : 0);
                }
            }
        }
        PagesByLevels x = withGap(0, 0, 9);
        Due.due("page -1", x.page(0, 0, 3, -1, 9, 4), -1);
        Due.due("page 11", x.page(0, 0, 3, 11, 9, 4), -1);
    }

    private static void pageOfStaying() {
        Due.sentence("at a LEVEL and a DEGREE, so many: CELLS of these that STAY");
        PagesByLevels x = Due.told("0@4 5;0@4 5;0@4 5;0@3 5;0@5 4;1@4 5;4@9 0;");
        for (int r = 0; r <= 10; r++) {
            Due.due("page " + r + " of what stays", x.page(0, 0, 7, r, 4, 0), 3);
            Due.due("page " + r + " by WAY 1", x.page(0, 1, 7, r, 5, 0), 4);
            Due.due("page " + r + " at another DEGREE", x.page(0, 0, 7, r, 4, 1), 1);
            Due.due("page " + r + " at the greatest", x.page(0, 0, 7, r, 9, 4), 1);
            Due.due("page " + r + " at the least", x.page(0, 1, 7, r, 0, 4), 1);
            Due.due("page " + r + " where there is none", x.page(0, 0, 7, r, 0, 0), 0);
        }
    }

    private static void turns() {
        Due.sentence("It TURNS, at a LEVEL and a DEGREE, so many: CELLS of these that are REDUCED to something, and go with "
            + "one by a GAP of r.");
        for (int way = 0; way < 2; way++) {
            for (int gap = 0; gap <= 9; gap++) {
                for (int r = 0; r <= 10; r++) {
                    PagesByLevels x = withGap(way, 9 - gap, gap);
                    Due.due("page " + r + " by a GAP of " + gap, x.turns(0, way, 5, r, 9, 4), r == gap ? 1 : 0);
                    Due.due("not the one that it goes with", x.turns(0, way, 5, r, 9 - gap, 3), 0);
                }
            }
        }
        PagesByLevels x = withGap(0, 0, 9);
        Due.due("page -1", x.turns(0, 0, 3, -1, 9, 4), -1);
        Due.due("page 11", x.turns(0, 0, 3, 11, 9, 4), -1);
    }

    private static void turnsOnlyWhatIsReduced() {
        Due.sentence("CELLS of these that are REDUCED to something");
        PagesByLevels x = Due.told("0;0;0;1:0;1:1;1:2;1@1:0;1@1:0,1,2;1;");
        Due.due("three by a GAP of 0", x.turns(0, 0, 2, 0, 0, 1), 3);
        Due.due("those REDUCED to nothing do not turn", x.turns(0, 0, 2, 0, 1, 1), 0);
        Due.due("by a GAP of 1 neither", x.turns(0, 0, 2, 1, 1, 1), 0);
        Due.due("but they are on the page", x.page(0, 0, 2, 10, 1, 1), 2);
    }

    private static void leftOfDegree() {
        Due.sentence("LEFT of a DEGREE by p: CELLS of it that STAY.");
        PagesByLevels x = Due.told("0;1:6*0;2;2@9;3:5*2;4@9;");
        int[][] want = {{1, 1, 1, 0, 1}, {1, 1, 1, 0, 1}, {0, 0, 2, 1, 1}, {0, 0, 1, 0, 1}};
        for (int degree = 0; degree <= 4; degree++) {
            for (int i = 0; i < 4; i++) {
                Due.due("of " + degree + " by " + PRIMES[i], x.left(0, PRIMES[i], degree), want[i][degree]);
            }
        }
    }

    private static void free() {
        Due.sentence("all ways to put together CELLS of a DEGREE (whole numbers of each), the EDGE of which is nothing");
        for (int degree = 0; degree <= 4; degree++) {
            PagesByLevels x = new PagesByLevels();
            for (int i = 0; i < 12; i++) {
                x.cell(1, degree, 0, 0);
                Due.due("FREE of DEGREE " + degree, x.whole(1, degree, 0), i + 1);
                Due.due("FREE of another DEGREE", x.whole(1, (degree + 1) % 5, 0), 0);
            }
        }
        PagesByLevels x = Due.told("0;1:9*0;1:-9*0;1:6*0;");
        Due.due("of three whose EDGE is one, two are FREE", x.whole(0, 1, 0), 2);
        Due.due("no FACTOR of them", x.whole(0, 1, 1), -3);
        Due.sentence("where those that are EDGES of what is put together of CELLS of a DEGREE more count nothing");
        Due.due("6 and 9 together make 3", x.whole(0, 0, 1), 3);
        Due.due("none is FREE", x.whole(0, 0, 0), 0);
        Due.due("9 makes 9", Due.told("0;1:9*0;").whole(0, 0, 1), 9);
        Due.due("8 and 9 make all", Due.told("0;1:9*0;1:8*0;").whole(0, 0, 1), -3);
        Due.due("0 times makes nothing", Due.told("0;1:0*0;").whole(0, 0, 0), 1);
        Due.due("of DEGREE 4 on DEGREE 3", Due.told("3;4:-7*0;").whole(0, 3, 1), 7);
        Due.due("of DEGREE 4 itself", Due.told("3;4:-7*0;").whole(0, 4, 0), 0);
    }

    private static void factors() {
        Due.sentence("FACTORS, each 2 or more, each of which the next one is a multiple of");
        for (int a = 1; a <= 9; a++) {
            for (int b = 1; b <= 9; b++) {
                PagesByLevels x = Due.told("0;0;1:-" + a + "*0;1:" + b + "*1;");
                int divisor = 1;
                for (int d = 1; d <= a; d++) {
                    divisor = a % d == 0 && b % d == 0 ? d : divisor;
                }
                int multiple = a * b / divisor;
                int first = divisor > 1 ? divisor : multiple > 1 ? multiple : -3;
                int second = divisor > 1 ? multiple : -3;
                Due.due("the first of " + a + " and " + b, x.whole(0, 0, 1), first);
                Due.due("the second of " + a + " and " + b, x.whole(0, 0, 2), second);
                Due.due("no third", x.whole(0, 0, 3), -3);
                Due.due("none is FREE", x.whole(0, 0, 0), 0);
            }
        }
    }

    private static void factorsOfTwo() {
        Due.sentence("it is as FREE times whole numbers and, for each FACTOR, what whole numbers leave by it.");
        PagesByLevels x = Due.told("0;0;0;0;1:2*0;1:2*0,4*1;1:2*0,4*1,8*2;");
        int[] want = {1, 2, 4, 8, -3};
        for (int i = 0; i < 5; i++) {
            Due.due("2, 4 and 8: " + i, x.whole(0, 0, i), want[i]);
        }
        // By 2 they leave 2, 2 and 4 ways; by 3 they leave 3, 3 and 9; by 5 they leave 5.
        x = Due.told("0;0;0;0;0;0;1:2*0;1:3*1;1:4*2;1:5*3;1:6*4;1:9*5;");
        want = new int[] {0, 6, 6, 180, -3};
        for (int i = 0; i < 5; i++) {
            Due.due("2, 3, 4, 5, 6 and 9: " + i, x.whole(0, 0, i), want[i]);
        }
        x = Due.told("0;0;0;1:2*0;1:2*0,2*1;1:-2*1;1:6*0,4*1;");
        want = new int[] {1, 2, 2, -3};
        for (int i = 0; i < 4; i++) {
            Due.due("more of them than CELLS: " + i, x.whole(0, 0, i), want[i]);
        }
        Due.due("what makes nothing is FREE", x.whole(0, 1, 0), 2);
        x = Due.told("0;0;0;1:6*1,-9*2;");
        want = new int[] {2, 3, -3};
        for (int i = 0; i < 3; i++) {
            Due.due("less of them than CELLS: " + i, x.whole(0, 0, i), want[i]);
        }
        Due.due("nothing of it is FREE", x.whole(0, 1, 0), 0);
    }

    private static void greatestFactors() {
        Due.sentence("so many FREE ones, and FACTORS");
        int[][] edges = {{-9, 9, 9, 9, 9, 8}, {9, -9, 9, 8, 9, 9}, {9, 9, -9, 9, 9, 9}, {-9, -8, -9, -9, 9, 8},
            {-9, -9, -8, 9, -9, 8}, {-8, -9, -8, 9, 9, -9}};
        Due.due("a great FACTOR", squareOf(edges).whole(0, 0, 1), 76233789);
        Due.due("the only one", squareOf(edges).whole(0, 0, 2), -3);
        Due.due("none is FREE", squareOf(edges).whole(0, 0, 0), 0);
        for (int i = 0; i < 6; i++) {
            java.util.Arrays.fill(edges[i], 0);
            edges[i][5 - i] = i % 2 == 0 ? 9 : -9;
        }
        for (int i = 1; i <= 6; i++) {
            Due.due("six of 9: " + i, squareOf(edges).whole(0, 0, i), 9);
        }
        Due.due("no seventh", squareOf(edges).whole(0, 0, 7), -3);
        Due.due("none that far", squareOf(edges).whole(0, 0, MAX), -3);
    }

    /** What was found for one COMPLEX must not be seen in what is found for the next one. */
    private static void factorsOneAfterAnother() {
        Due.sentence("the i-th FACTOR (i 1 or more; NONE: there are not so many)");
        PagesByLevels x = new PagesByLevels();
        for (int i = 0; i < 16; i++) {
            int cells = 4 - i / 4;
            int edges = 1 + i % 4;
            int rank = Math.min(cells, edges);
            StringBuilder text = new StringBuilder("0;".repeat(cells));
            for (int edge = 0; edge < edges; edge++) {
                text.append("1:2*").append(edge % cells).append(';');
            }
            String told = edges + " EDGES of " + cells;
            Due.due(told, Due.text(x, 0, text.toString()), cells + edges);
            Due.due(told + ": FREE", x.whole(0, 0, 0), cells - rank);
            Due.due(told + ": the first FACTOR", x.whole(0, 0, 1), 2);
            Due.due(told + ": the last FACTOR", x.whole(0, 0, rank), 2);
            Due.due(told + ": no more", x.whole(0, 0, rank + 1), -3);
            Due.due(told + ": FREE ones above", x.whole(0, 1, 0), edges - rank);
        }
    }

    private static PagesByLevels squareOf(int[][] edges) {
        PagesByLevels x = new PagesByLevels();
        for (int i = 0; i < 12; i++) {
            x.cell(0, i / 6, 0, 0);
        }
        for (int i = 0; i < 36; i++) {
            x.entry(0, 6 + i / 6, i % 6, edges[i / 6][i % 6]);
        }
        return x;
    }

    private static void atALevel() {
        Due.sentence("AT A LEVEL by a WAY: the same with CELLS of that LEVEL alone.");
        PagesByLevels x = Due.told("0@2 9;0@2 0;0@1 9;1@2 9:4*0,3*1,9*2;1@2 9:5*1;1@3 9:7*0;");
        Due.due("by WAY 0 at 2: FREE", x.wholeAt(0, 0, 2, 0, 0), 0);
        Due.due("by WAY 0 at 2: 4, 0 over 3, 5", x.wholeAt(0, 0, 2, 0, 1), 20);
        Due.due("by WAY 0 at 1", x.wholeAt(0, 0, 1, 0, 0), 1);
        Due.due("by WAY 0 at 1: no FACTOR", x.wholeAt(0, 0, 1, 0, 1), -3);
        Due.due("by WAY 0 at 3: FREE", x.wholeAt(0, 0, 3, 1, 0), 1);
        Due.due("by WAY 1 at 9: FREE", x.wholeAt(0, 1, 9, 0, 0), 0);
        Due.due("by WAY 1 at 9: 4 and 9, 7 alone", x.wholeAt(0, 1, 9, 0, 1), 63);
        Due.due("by WAY 1 at 9: 5 times another one's is nothing", x.wholeAt(0, 1, 9, 1, 0), 1);
        Due.due("by WAY 1 at 0", x.wholeAt(0, 1, 0, 0, 0), 1);
        Due.due("where there is none: FREE", x.wholeAt(0, 1, 5, 0, 0), 0);
        Due.due("where there is none: FACTORS", x.wholeAt(0, 1, 5, 0, 1), -3);
        Due.due("of all LEVELS", x.whole(0, 0, 1), 9 * 5 * 7);
    }

    private static void goes() {
        Due.sentence("With which one a CELL GOES; NONE: it STAYS.");
        PagesByLevels x = Due.told(Scene.TEXTS[2]);
        Due.due("CELL 11 with 10", x.goes(0, 0, 2, 11), 10);
        Due.due("CELL 10 with 11", x.goes(0, 1, 2, 10), 11);
        Due.due("by 3 it stays", x.goes(0, 0, 3, 11), -3);
        Due.due("by 3 it stays", x.goes(0, 0, 3, 10), -3);
        x.entry(0, 11, 10, 0);
        Due.due("CELL 11 with 0", x.goes(0, 0, 2, 11), 0);
        Due.due("CELL 0 with 11", x.goes(0, 0, 2, 0), 11);
        Due.due("CELL 10 stays", x.goes(0, 0, 2, 10), -3);
        Due.due("no CELLS: BAD", x.goes(1, 0, 2, 0), -1);
    }

    private static void reduced() {
        Due.sentence("ENTRY (0 to p - 1) of y in what x is REDUCED to.");
        PagesByLevels x = Due.told("0;1:-0;1:0;");
        for (int p : PRIMES) {
            Due.due("the greatest by " + p, x.reduced(0, 0, p, 1, 0), p - 1);
            Due.due("the least by " + p, x.reduced(0, 0, p, 2, 0), 0);
            Due.due("where there may be none, by " + p, x.reduced(0, 1, p, 0, 1), 0);
            Due.due("of itself, by " + p, x.reduced(0, 1, p, 1, 1), 0);
        }
        Due.due("no CELLS: BAD", x.reduced(1, 0, 2, 0, 0), -1);
        x = Due.told("0@1 2;0@2 1;1@2 2:0,1;1@3 3:2*0,1;");
        Due.due("by WAY 0 CELL 1 is the last: 0 is left of it", x.reduced(0, 0, 3, 3, 1), 0);
        Due.due("by WAY 0 CELL 0 is left", x.reduced(0, 0, 3, 3, 0), 1);
        Due.due("by WAY 1 CELL 0 is the last: 0 is left of it", x.reduced(0, 1, 3, 3, 0), 0);
        Due.due("by WAY 1 CELL 1 is left", x.reduced(0, 1, 3, 3, 1), 2);
    }

    private static void pagePromised() {
        Due.sentence("How many PAGE r has at a LEVEL and a DEGREE.");
        PagesByLevels x = new PagesByLevels();
        Due.due("none of no CELLS", x.page(2, 1, 7, 10, 9, 4), 0);
        for (int i = 0; i < 12; i++) {
            x.cell(2, 4, 9, 9);
        }
        Due.due("all twelve", x.page(2, 1, 7, 10, 9, 4), 12);
        Due.due("none elsewhere", x.page(2, 1, 7, 10, 8, 4), 0);
        Due.due("none elsewhere", x.page(2, 1, 7, 10, 9, 3), 0);
    }

    private static void turnsPromised() {
        Due.sentence("How many PAGE r TURNS at a LEVEL and a DEGREE.");
        PagesByLevels x = Due.told("0;0;0;0;0;0;1@9:0;1@9:1;1@9:2;1@9:3;1@9:4;1@9:5;");
        Due.due("all six", x.turns(0, 0, 2, 9, 9, 1), 6);
        Due.due("none by a GAP less", x.turns(0, 0, 2, 8, 9, 1), 0);
        Due.due("none by a GAP more", x.turns(0, 0, 2, 10, 9, 1), 0);
        Due.due("none at another LEVEL", x.turns(0, 0, 2, 9, 8, 1), 0);
        Due.due("none at another DEGREE", x.turns(0, 0, 2, 9, 9, 0), 0);
        Due.due("none of no CELLS", x.turns(1, 0, 2, 0, 0, 0), 0);
    }

    private static void stands() {
        Due.sentence("The least r from which on all PAGES have the same, at all LEVELS and DEGREES.");
        Due.due("no CELLS", new PagesByLevels().stands(0, 0, 2), 0);
        Due.due("all stay", Due.told("0;1@9:2*0;").stands(0, 0, 2), 0);
        for (int gap = 0; gap <= 9; gap++) {
            Due.due("a GAP of " + gap, withGap(1, 0, gap).stands(0, 1, 3), gap + 1);
        }
        String threeGaps = "0;1@3:0;0@2;1@9:2;3@1;4@2:4;";
        Due.due("the widest GAP counts, at whatever LEVEL and DEGREE", Due.told(threeGaps).stands(0, 0, 5), 8);
        for (int r = 0; r <= 10; r++) {
            PagesByLevels x = Due.told(threeGaps);
            int together = 0;
            for (int place = 0; place < 50; place++) {
                together += x.page(0, 0, 5, r, place % 10, place / 10);
            }
            Due.due("all of page " + r, together, r <= 1 ? 6 : r <= 3 ? 4 : r <= 7 ? 2 : 0);
        }
    }

    private static void left() {
        Due.sentence("`int left(int complex, int p, int degree)`: LEFT of a DEGREE.");
        PagesByLevels x = Due.told("4;4@9;4@0 9;4@9 0;4;4;4;4;4;4;4;4;");
        Due.due("all twelve", x.left(0, 7, 4), 12);
        Due.due("none of DEGREE 3", x.left(0, 7, 3), 0);
        Due.due("none of no CELLS", x.left(1, 2, 0), 0);
        Due.due("none is left", Due.told("0;1@9:0;").left(0, 2, 1), 0);
        Due.due("none is left", Due.told("0;1@9:0;").left(0, 2, 0), 0);
    }

    private static void whole() {
        Due.sentence("FREE ones (i 0), the i-th FACTOR (i 1 or more; NONE: there are not so many).");
        PagesByLevels x = Due.told("0;0;1:4*0;1:6*1;");
        int[] want = {0, 2, 12, -3, -3};
        for (int i = 0; i < 5; i++) {
            Due.due("i " + i, x.whole(0, 0, i), want[i]);
        }
        Due.due("i -1", x.whole(0, 0, -1), -1);
        Due.due("of DEGREE 4: FREE", x.whole(0, 4, 0), 0);
        Due.due("of DEGREE 4: FACTORS", x.whole(0, 4, 1), -3);
        Due.due("of DEGREE 5", x.whole(0, 5, 0), -1);
        Due.due("of DEGREE -1", x.whole(0, -1, 0), -1);
    }

    private static void wholeAt() {
        Due.sentence("The same AT A LEVEL. BAD; STATE.");
        PagesByLevels x = Due.told("0@9 0;0@9 0;1@9 0:4*0;1@9 0:6*1;");
        int[] want = {0, 2, 12, -3, -3};
        for (int i = 0; i < 5; i++) {
            Due.due("by WAY 0 at the greatest: " + i, x.wholeAt(0, 0, 9, 0, i), want[i]);
            Due.due("by WAY 1 at the least: " + i, x.wholeAt(0, 1, 0, 0, i), want[i]);
            Due.due("elsewhere: " + i, x.wholeAt(0, 0, 8, 0, i), i == 0 ? 0 : -3);
            Due.due("elsewhere: " + i, x.wholeAt(0, 1, 1, 0, i), i == 0 ? 0 : -3);
        }
        x = Due.told("0@1;1@1:0;2@9:2*1;");
        Due.due("BROKEN beyond that LEVEL, too", x.wholeAt(0, 0, 1, 0, 0), -4);
    }
}
