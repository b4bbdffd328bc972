/** An object in which each refusal can be met, all that can be asked of it, and what follows from both. */
final class Scene {
    private static final int MIN = Integer.MIN_VALUE, MAX = Integer.MAX_VALUE;

    /**
     * COMPLEX 0: six CELLS, not BROKEN; 1: BROKEN, mended by 409; 2: full; 3: three CELLS, not BROKEN.
     * SHEET 0: bytes 0, 7, 0, ..; 1: longs; 2: missing; 3: ints 0, -1, 0, ..: eight places each.
     */
    static final String[] TEXTS = {"0;0@1 2;1@2 3:-0,1;1@2 3:3*0;2@9;0@2 3;", "0;1:2*0;2:3*1;",
        "0;0;0;0;0;0;0;0;0;0;0;1@9:-9*0,9*10;", "1@4 3;0;1@4 3:6*1;"};
    static final String ON_TAPE = "0;1:-";

    interface Call {
        int of(PagesByLevels x);
    }

    interface Ahead {
        PagesByLevels doneTo(PagesByLevels x);
    }

    interface CallOf {
        int of(PagesByLevels x, int v);
    }

    private static final String AS_MADE = all(made());

    private Scene() {
    }

    static PagesByLevels made() {
        PagesByLevels x = new PagesByLevels();
        Due.text(x, 1, "0@3;");
        x.keep();
        for (int c = 0; c < 4; c++) {
            Due.text(x, c, TEXTS[c]);
        }
        x.sheet(0, 0, 8);
        x.put(0, 1, 7);
        x.sheet(1, 2, 8);
        x.put(1, 7, 1L << 32 | 5);
        x.sheet(3, 1, 8);
        x.put(3, 1, -1);
        x.mend(1);
        Due.feed(x, ON_TAPE);
        return x;
    }

    /** All that can be asked of an object, what is kept and what stands on THE TAPE at last: these are used up. */
    static String all(PagesByLevels x) {
        StringBuilder all = new StringBuilder();
        for (int c = 0; c < 4; c++) {
            all.append(cells(x, c)).append('|');
        }
        for (int what = 0; what < 4; what++) {
            all.append(x.many(what)).append(what < 3 ? "," + x.trials(what) + " " : "|");
        }
        for (int sheet = 0; sheet < 4; sheet++) {
            all.append(row(x, sheet)).append('|');
        }
        Due.feed(x, "0;");
        all.append(x.text(3)).append(' ').append(cells(x, 3)).append('|');
        all.append(x.again());
        for (int c = 0; c < 4; c++) {
            all.append(' ').append(cells(x, c));
        }
        return all.toString();
    }

    private static String cells(PagesByLevels x, int complex) {
        StringBuilder all = new StringBuilder();
        for (int cell = 0; x.of(complex, cell, 0) >= 0; cell++) {
            for (int what = 0; what < 5; what++) {
                all.append(x.of(complex, cell, what)).append(what < 4 ? " " : ":");
            }
            int entry = x.of(complex, cell, 3) > 0 ? x.entryOf(complex, cell, 0) : -1;
            for (int y = 1; entry >= 0; y++) {
                all.append(entry - 10).append(',');
                entry = x.entryOf(complex, cell, y);
            }
            all.append(';');
        }
        return all.toString();
    }

    private static String row(PagesByLevels x, int sheet) {
        StringBuilder all = new StringBuilder();
        for (int sort = 0; sort < 3; sort++) {
            int outside = x.item(sheet, sort, MIN);
            all.append(outside).append(' ');
            for (int i = 0; i < 8 && outside == -12; i++) {
                all.append(x.item(sheet, sort, i)).append(',');
            }
        }
        return all.toString();
    }

    /** The call is refused so, and all is as it was. */
    static void refused(String what, int want, Call call) {
        refused(what, want, made(), AS_MADE, call);
    }

    /** The same where something is done to the scene ahead. */
    static void refused(String what, int want, Ahead ahead, Call call) {
        refused(what, want, ahead.doneTo(made()), all(ahead.doneTo(made())), call);
    }

    static void refused(String what, int want, PagesByLevels x, String asItWas, Call call) {
        Due.due(what, call.of(x), want);
        Due.same(what + ": all as it was", all(x), asItWas);
    }

    /** The least and the greatest of an argument are taken, one beyond each (and what is far beyond) is refused. */
    static void ends(String what, int least, int dueLeast, int greatest, int dueGreatest, int refusal, CallOf call) {
        Due.due(what + " at its least, " + least, call.of(made(), least), dueLeast);
        Due.due(what + " at its greatest, " + greatest, call.of(made(), greatest), dueGreatest);
        for (int v : new int[] {least - 1, greatest + 1, MIN, MAX}) {
            refused(what + " at " + v, refusal, x -> call.of(x, v));
        }
    }

    /** 2, 3, 5 and 7 are taken, each with the answer due, and no other number. */
    static void primes(String what, int by2, int by3, int by5, int by7, CallOf call) {
        Due.due(what + " 2", call.of(made(), 2), by2);
        Due.due(what + " 3", call.of(made(), 3), by3);
        Due.due(what + " 5", call.of(made(), 5), by5);
        Due.due(what + " 7", call.of(made(), 7), by7);
        for (int p : new int[] {MIN, -7, -5, -3, -2, -1, 0, 1, 4, 6, 8, 9, 10, 11, 13, 49, MAX}) {
            refused(what + " " + p, -1, x -> call.of(x, p));
        }
    }
}
