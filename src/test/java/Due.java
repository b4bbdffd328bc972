import java.io.IOException;
import java.io.UncheckedIOException;
import java.nio.charset.StandardCharsets;
import java.nio.file.Files;
import java.nio.file.Path;

/** What the tests share: answers compared with those that are due, texts fed to THE TAPE. */
final class Due {
    private static int right = 0;
    private static int wrong = 0;
    /** The sentence of the document that is looked at, and how many answers had been looked at before it. */
    private static String sentence = "";
    private static int before = 0;
    private static String document = null;

    private Due() {
    }

    /** What follows is due by this sentence, which must stand in the document word by word. */
    static void sentence(String words) {
        endOfSentence();
        isTrue("the document says: " + words, document().contains(words));
        sentence = words;
        before = right + wrong;
    }

    private static void endOfSentence() {
        String ended = sentence;
        sentence = "";
        isTrue("an answer is looked at for: " + ended, ended.isEmpty() || right + wrong > before);
    }

    private static String document() {
        if (document == null) {
            try {
                document = Files.readString(Path.of("../shared/DOC.md")).replaceAll("\\s+", " ");
            } catch (IOException e) {
                throw new UncheckedIOException(e);
            }
        }
        return document;
    }

    static void due(String what, long got, long want) {
        if (got == want) {
            right++;
        } else {
            wrong++;
            System.out.println((sentence.isEmpty() ? "" : "\"" + sentence + "\" ") + what + " answered " + got
                + ", due is " + want);
        }
    }

    static void same(String what, String got, String want) {
        due(what, got.equals(want) ? 1 : 0, 1);
        if (!got.equals(want)) {
            System.out.println("  it is  " + got + "\n  due is " + want);
        }
    }

    static void isTrue(String what, boolean holds) {
        due(what, holds ? 1 : 0, 1);
    }

    /** Ends the test: exit code 1 if an answer was wrong, or if none was looked at. */
    static void end(String test) {
        endOfSentence();
        System.out.println(test + ": " + right + " answers as due, " + wrong + " not");
        if (wrong != 0 || right == 0) {
            System.exit(1);
        }
    }

    static int feed(PagesByLevels x, String text) {
        byte[] bytes = text.getBytes(StandardCharsets.ISO_8859_1);
        int answer = x.many(3);
        for (int i = 0; i < bytes.length; i += 8) {
            int n = Math.min(8, bytes.length - i);
            long eight = 0;
            for (int k = 0; k < n; k++) {
                eight |= (bytes[i + k] & 255L) << (8 * k);
            }
            answer = x.feed(eight, n);
        }
        return answer;
    }

    static int text(PagesByLevels x, int complex, String text) {
        feed(x, text);
        return x.text(complex);
    }

    /** A new object whose COMPLEX 0 is what the text tells. */
    static PagesByLevels told(String text) {
        PagesByLevels x = new PagesByLevels();
        if (text(x, 0, text) < 0) {
            throw new IllegalStateException("not a text: " + text);
        }
        return x;
    }

    /** All that can be asked of a COMPLEX' CELLS and ENTRIES, as one text. */
    static String shape(PagesByLevels x, int complex) {
        StringBuilder all = new StringBuilder();
        for (int cell = 0; x.of(complex, cell, 0) >= 0; cell++) {
            all.append(x.of(complex, cell, 0)).append('@').append(x.of(complex, cell, 1));
            all.append(' ').append(x.of(complex, cell, 2)).append(':');
            for (int y = 0; x.of(complex, y, 0) >= 0; y++) {
                all.append(x.entryOf(complex, cell, y) - 10).append(',');
            }
            all.append(';');
        }
        return all.toString();
    }
}
