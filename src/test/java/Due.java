import java.nio.charset.StandardCharsets;

/** What the tests share: answers compared with those that are due, texts fed to THE TAPE. */
final class Due {
    private static int right = 0;
    private static int wrong = 0;

    private Due() {
    }

    static void due(String what, long got, long want) {
        if (got == want) {
            right++;
        } else {
            wrong++;
            System.out.println(what + " answered " + got + ", due is " + want);
        }
    }

    static void isTrue(String what, boolean holds) {
        due(what, holds ? 1 : 0, 1);
    }

    /** Ends the test: exit code 1 if an answer was wrong, or if none was looked at. */
    static void end(String test) {
        System.out.println(test + ": " + right + " answers as due, " + wrong + " not");
        if (wrong != 0 || right == 0) {
            System.exit(1);
        }
    }

    static int feed(PagesByLevels x, String text) {
        byte[] bytes = text.getBytes(StandardCharsets.ISO_8859_1);
        int answer = x.many(3);
        for (int i = 0; i < bytes.length; i += 8) {
            int n = Math.min(8, bytes.length - i);
            long eight = 0;
            for (int k = 0; k < n; k++) {
                eight |= (bytes[i + k] & 255L) << (8 * k);
            }
            answer = x.feed(eight, n);
        }
        return answer;
    }

    static int text(PagesByLevels x, int complex, String text) {
        feed(x, text);
        return x.text(complex);
    }

    /** A new object whose COMPLEX 0 is what the text tells. */
    static PagesByLevels told(String text) {
        PagesByLevels x = new PagesByLevels();
        if (text(x, 0, text) < 0) {
            throw new IllegalStateException("not a text: " + text);
        }
        return x;
    }

    /** All that can be asked of a COMPLEX' CELLS and ENTRIES, as one text. */
    static String shape(PagesByLevels x, int complex) {
        StringBuilder all = new StringBuilder();
        for (int cell = 0; x.of(complex, cell, 0) >= 0; cell++) {
            all.append(x.of(complex, cell, 0)).append('@').append(x.of(complex, cell, 1));
            all.append(' ').append(x.of(complex, cell, 2)).append(':');
            for (int y = 0; x.of(complex, y, 0) >= 0; y++) {
                all.append(x.entryOf(complex, cell, y) - 10).append(',');
            }
            all.append(';');
        }
        return all.toString();
    }
}
