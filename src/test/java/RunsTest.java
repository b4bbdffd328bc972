import java.io.IOException;
import java.lang.reflect.Method;
import java.nio.file.Files;
import java.nio.file.Path;
import java.util.ArrayList;
import java.util.Arrays;
import java.util.List;
import java.util.regex.Matcher;
import java.util.regex.Pattern;

/** Runs of 512 calls on one object, each answer compared with that of a second program (Plain). */
public final class RunsTest {
    /** Each call and what its arguments are, by the letters that `argument` tells. */
    private static final String[] CALLS = {"entry CXXV", "entryOf CXX", "of CXH", "broken C", "goes CWPX", "reduced CWPXX",
        "page CWPRLD", "turns CWPRLD", "stands CWP", "left CPD", "whole CDI", "wholeAt CWLDI", "would CXXVPD", "trials H",
        "put SB8", "item STB", "copy SBSBB", "lay CXSB", "take SBCX", "many H", "cell CDLL",
        "keep", "again", "mend C", "clear C", "feed 8N", "text C", "times CCC", "part CWLC", "sheet STB"};
    /** So many of these are called more often: the others mostly leave little of what was there. */
    private static final int FEW = 21;
    private static final String[] TEXTS = {"0;1:2*0;", "0@1;1@2:3*0;", "0;0@1;1@2:2*0,-2*1;", "0;1@3 1:6*0;2@4 2;", "0;1:2*0;2:3*1;",
        "0;0@2;1@3:-0,1;1@3:-0,1;2@5 4:2,-3;", "2;1@1;3@1:2*0;2@1:4*1;", "0;0;0@1;1@1:-0,1;1@2:-1,2;1@3:-0,2;2@4:3,4,-5;",
        "1@1 2;1@2 1;2@2:4*0,6*1;2@3:9*0,9*1;", "0;0;0;1:2*0,2*1;1:2*1,2*2;1:4*0,6*2;", " 3 ; 4 @ 1 : 5 * 0 ; ", "4;3;2;1;0;",
        "0;1:9*0;1:-9*0;2:7*1,7*2;3:0*3;", "0;1 0:5*0;", "0;0;0;0;0;0;0;0;0;0;0;1:0,1,2,3,4,5,6,7,8,9,10;"};
    private static long seed = 12;

    private final PagesByLevels program = new PagesByLevels();
    private final Plain plain = new Plain();
    private final StringBuilder told = new StringBuilder();
    private int calls = 0;
    private boolean allAsDue = true;

    public static void main(String[] args) throws IOException, ReflectiveOperationException {
        for (int round = 0; round < 300; round++) {
            new RunsTest().anyRun(5 + round % 60);
        }
        List<String> given = callsOfGivenTests();
        for (int round = 0; round < 150; round++) {
            new RunsTest().runOf(given);
        }
        Due.end("RunsTest");
    }

    private static int upTo(int most) {
        seed = seed * 6364136223846793005L + 1442695040888963407L;
        return (int) ((seed >>> 33) % (most + 1));
    }

    private boolean goesOn() {
        return calls < 512 && allAsDue;
    }

    /** The run up to the first answer that is not as due: what comes after it tells no more. */
    private int call(String name, long... given) throws ReflectiveOperationException {
        if (!goesOn()) {
            return -1;
        }
        calls++;
        int got = answer(program, name, given);
        int want = answer(plain, name, given);
        told.append("\n  ").append(name).append(Arrays.toString(given)).append(": ").append(want);
        allAsDue = got == want;
        Due.due(allAsDue ? "" : "a run of" + told + "\n  its last call", got, want);
        return want;
    }

    private static int answer(Object object, String name, long[] given) throws ReflectiveOperationException {
        for (Method m : object.getClass().getDeclaredMethods()) {
            if (m.getName().equals(name) && m.getParameterCount() == given.length) {
                Object[] boxed = new Object[given.length];
                for (int i = 0; i < given.length; i++) {
                    boolean narrow = m.getParameterTypes()[i] == int.class;
                    boxed[i] = narrow ? (Object) (int) given[i] : (Object) given[i];
                }
                return (Integer) m.invoke(object, boxed);
            }
        }
        throw new IllegalStateException("no call " + name);
    }

    /** One argument in so many is a wide one; of the others most are of CELLS that the COMPLEX has. */
    private long argument(char kind, int complex, int wide) {
        int[] widest = {Integer.MIN_VALUE, Integer.MAX_VALUE, -1, -1, -9, -10, 4, 5, 9, 10, 10, 11, 12, 13, 40, 41};
        if (upTo(wide) == 0) {
            return widest[upTo(widest.length - 1)];
        }
        int cell = upTo(Math.max(0, size(complex) - 1));
        boolean ofCell = complex >= 0 && upTo(3) > 0 && size(complex) > 0;
        switch (kind) {
            case 'C': return upTo(4) > 0 ? oneWithCells() : upTo(3);
            case 'S': return upTo(3);
            case 'D': return ofCell ? plain.of(complex, cell, 0) : upTo(4);
            case 'L': return ofCell ? plain.of(complex, cell, 1 + upTo(1)) : upTo(upTo(2) == 0 ? 9 : 4);
            case 'W': return upTo(1);
            case 'P': return new int[] {2, 3, 5, 7}[upTo(3)];
            case 'R': return upTo(3) == 0 ? upTo(10) : upTo(3);
            case 'X': return ofCell ? cell : upTo(11);
            case 'V': return upTo(18) - 9;
            case 'H': return upTo(5);
            case 'I': return upTo(3);
            case 'T': return upTo(2);
            case 'B': return upTo(3) == 0 ? upTo(40) : upTo(5);
            case 'N': return 1 + upTo(7);
            default: return upTo(2) == 0 ? eight() : upTo(200) - 100;
        }
    }

    private static long eight() {
        String signs = "00112;;;;::@*-,, 34x";
        long eight = 0;
        for (int k = 0; k < 8; k++) {
            eight = eight << 8 | signs.charAt(upTo(signs.length() - 1));
        }
        return eight;
    }

    private void anyRun(int wide) throws ReflectiveOperationException {
        while (goesOn()) {
            int kind = upTo(60);
            if (kind < 3) {
                tellText(upTo(3));
            } else if (kind < 5) {
                mendOne(upTo(3));
            } else if (kind < 6) {
                fillRow(upTo(3));
            } else {
                anyCall(CALLS[upTo(upTo(4) == 0 ? CALLS.length - 1 : FEW - 1)].split(" "), wide);
            }
        }
    }

    private void anyCall(String[] each, int wide) throws ReflectiveOperationException {
        String kinds = each.length == 1 ? "" : each[1];
        long[] given = new long[kinds.length()];
        int complex = -1;
        for (int i = 0; i < given.length; i++) {
            given[i] = argument(kinds.charAt(i), complex, wide);
            complex = kinds.charAt(i) == 'C' ? (int) given[i] : complex;
        }
        if (kinds.startsWith("CXX") && size(complex) > 0 && upTo(3) > 0) {
            anyPair(complex, given);
        }
        call(each[0], given);
    }

    /** Two CELLS of which the second may have an ENTRY in EDGE of the first, if such are soon found. */
    private void anyPair(int complex, long[] given) {
        for (int i = 0; i < 30; i++) {
            int x = upTo(size(complex) - 1);
            int y = upTo(size(complex) - 1);
            if (plain.mayHave(complex, x, y)) {
                given[1] = x;
                given[2] = y;
            }
        }
    }

    private int size(int complex) {
        int size = 0;
        while (plain.of(complex, size, 0) >= 0) {
            size++;
        }
        return size;
    }

    private int oneWithCells() {
        int c = upTo(3);
        for (int i = 0; i < 4 && (plain.many(1) >> c & 1) == 0; i++) {
            c = (c + 1) % 4;
        }
        return c;
    }

    /** A TEXT, most times as it should be, behind what may stand on THE TAPE. */
    private void tellText(int complex) throws ReflectiveOperationException {
        if (upTo(3) > 0) {
            call("text", 3);
        }
        String text = TEXTS[upTo(TEXTS.length - 1)];
        text = upTo(5) > 0 ? text : text.substring(0, 1 + upTo(text.length() - 1));
        text = upTo(5) > 0 ? text : text + TEXTS[upTo(TEXTS.length - 1)];
        for (int at = 0; at < text.length();) {
            int n = Math.min(1 + upTo(7), text.length() - at);
            long eight = 0;
            for (int i = 0; i < n; i++) {
                eight |= (long) text.charAt(at + i) << 8 * i;
            }
            call("feed", eight | (n < 8 ? (long) upTo(255) << 8 * n : 0), n);
            at += n;
        }
        call("text", complex);
    }

    private void mendOne(int complex) throws ReflectiveOperationException {
        int mended = call("mend", complex);
        if (mended >= 0) {
            call("trials", 0);
            call("entry", complex, mended / 400, mended / 20 % 20, mended % 20 - 9);
            call("broken", complex);
        }
    }

    private void fillRow(int sheet) throws ReflectiveOperationException {
        call("sheet", sheet, upTo(2), upTo(1) == 0 ? 12 : upTo(40));
        int complex = upTo(3);
        call("lay", complex, upTo(5), sheet, upTo(3));
        call("put", sheet, upTo(5), upTo(18) - 9);
        call("take", sheet, upTo(3), complex, upTo(5));
    }

    /** Calls of the tests under ../shared/tests, some left out, some said again, some of them elsewhere. */
    private void runOf(List<String> given) throws ReflectiveOperationException {
        int at = upTo(given.size() - 1);
        int leap = 1 + upTo(30);
        while (goesOn()) {
            String[] each = given.get(at).split(" ");
            call(each[0], Arrays.stream(each).skip(1).mapToLong(Long::parseLong).toArray());
            at = upTo(leap) == 0 ? upTo(given.size() - 1) : (at + 1 + upTo(4) / 4) % given.size();
        }
    }

    private static List<String> callsOfGivenTests() throws IOException {
        List<String> calls = new ArrayList<>();
        Matcher m = Pattern.compile("\\(long\\) x\\.(\\w+)\\(([^)]*)\\)")
            .matcher(Files.readString(Path.of("../shared/tests/PagesByLevelsRuns.java")));
        while (m.find()) {
            calls.add((m.group(1) + " " + m.group(2).replace("L", "").replace(",", "")).trim());
        }
        Due.isTrue("calls of the given tests: " + calls.size(), calls.size() > 100);
        return calls;
    }
}
