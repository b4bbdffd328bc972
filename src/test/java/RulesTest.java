import java.io.IOException;
import java.lang.reflect.Field;
import java.lang.reflect.Modifier;
import java.nio.file.Files;
import java.nio.file.Path;
import java.util.regex.Matcher;
import java.util.regex.Pattern;

/** What of LANGUAGE.md can be told from the program's text. */
public final class RulesTest {
    private static final String[] WORDS = {"throw", "throws", "try", "catch", "finally", "synchronized", "assert", "import",
        "package", "protected", "volatile", "transient", "native", "strictfp", "var", "yield", "lambda", "sealed",
        "Exception", "Error", "System.out", "System.err", "System.exit", "Math.random", "HashMap", "Map", "Set",
        "equals", "hashCode", "toString", "Thread", "Object", "Class"};

    public static void main(String[] args) throws IOException {
        String text = Files.readString(Path.of("src/main/java/PagesByLevels.java"));
        Due.isTrue("signs of 1 to 127 alone", text.chars().allMatch(c -> c >= 1 && c <= 127));
        String code = withoutRemarks(text).replace("import java.util.Arrays;", "");
        for (String word : WORDS) {
            Due.isTrue("no " + word, !Pattern.compile("\\b" + Pattern.quote(word) + "\\b").matcher(code).find());
        }
        Due.isTrue("no lambda, no method reference", !code.contains("->") && !code.contains("::"));
        Due.isTrue("no Exact", !code.contains("Exact"));
        Due.isTrue("no lists of a made class", !code.contains("<>"));
        Due.isTrue("no annotation", !Pattern.compile("@[A-Za-z]").matcher(code).find());
        headings(text);
        library(code);
        classes(code);
        methods(code);
        Due.end("RulesTest");
    }

    private static String withoutRemarks(String text) {
        return text.replaceAll("(?s)/\\*.*?\\*/", "").replaceAll("//[^\\n]*", "");
    }

    private static void headings(String text) {
        String[][] calls = {{"complexes", "clear", "cell", "entry", "entryOf", "of", "broken", "mend", "feed", "text"},
            {"reduced, pages", "goes", "reduced", "page", "turns", "stands", "left", "whole", "wholeAt"},
            {"made, tried", "times", "part", "would", "trials"},
            {"rows, what is kept", "sheet", "put", "item", "copy", "lay", "take", "many", "keep", "again"}};
        int ahead = 0;
        for (String[] group : calls) {
            for (int i = 0; i < group.length; i++) {
                int at = text.indexOf(i == 0 ? "// ---- " + group[0] + "\n" : "public int " + group[i] + "(");
                Due.isTrue(group[i] + " stands in its order", at > ahead);
                ahead = at;
            }
        }
    }

    private static void library(String code) {
        Matcher m = Pattern.compile("\\b(Math|Integer|Long|Arrays|System|String|Character|Byte)\\.(\\w+)").matcher(code);
        while (m.find()) {
            boolean listed = m.group().matches("Math\\.(max|min|abs|floorMod|floorDiv)|Integer\\.(compare|bitCount)"
                + "|System\\.arraycopy|Arrays\\.(copyOf|copyOfRange|fill)");
            Due.isTrue(m.group() + " is listed", listed);
        }
    }

    private static void classes(String code) {
        Matcher m = Pattern.compile("\\bclass \\w+").matcher(code);
        int classes = 0;
        while (m.find()) {
            classes++;
        }
        Due.isTrue(classes + " classes, twelve at most", classes <= 12);
        for (Class<?> inner : PagesByLevels.class.getDeclaredClasses()) {
            fields(inner);
        }
        fields(PagesByLevels.class);
    }

    private static void fields(Class<?> c) {
        int fields = 0;
        for (Field f : c.getDeclaredFields()) {
            boolean isStatic = Modifier.isStatic(f.getModifiers());
            fields += isStatic ? 0 : 1;
            Due.isTrue("static " + f.getName() + " is final", !isStatic || Modifier.isFinal(f.getModifiers()));
        }
        Due.isTrue(c + " has " + fields + " fields, twenty at most", fields <= 20);
    }

    private static void methods(String code) {
        Matcher m = Pattern.compile("(?m)^( {4}| {8})((public|private|static) )*\\w+(\\[\\])? ?\\w*\\(([^)]*)\\) \\{$").matcher(code);
        int methods = 0;
        while (m.find()) {
            methods++;
            int end = code.indexOf("\n" + m.group(1) + "}", m.start());
            long lines = code.substring(m.start(), end).chars().filter(c -> c == '\n').count();
            Due.isTrue(m.group().trim() + " has " + lines + " lines", lines <= 60);
            int given = m.group(5).isBlank() ? 0 : m.group(5).split(",").length;
            Due.isTrue(m.group().trim() + " takes " + given, given <= 7);
        }
        Due.isTrue("methods are found: " + methods, methods > 60);
    }
}
