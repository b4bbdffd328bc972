/** The sentences on THE TAPE and TEXT, and of promises 9 and 10, that name a boundary case, each for itself. */
public final class TapeSentencesTest {
    private static final String TWELVE = "0;0;0;0;0;0;0;0;0;0;0;0;";

    public static void main(String[] args) {
        tape();
        cells();
        cellParts();
        entryParts();
        degrees();
        levels();
        secondLevels();
        howOften();
        toldAhead();
        mayHaveAnEntry();
        toldOnce();
        digits();
        blanks();
        fault();
        faultOfNumber();
        faultOfThirteenth();
        faultAtTheEnd();
        faultOfEachByte();
        feed();
        feedBadAndFull();
        text();
        textBad();
        Due.end("TapeSentencesTest");
    }

    /** So many CELLS, or less than 0: -1 less the FAULT. */
    private static int told(String text) {
        PagesByLevels x = new PagesByLevels();
        int answer = Due.text(x, 0, text);
        Due.due("CELLS after \"" + text + "\"", x.many(0), Math.max(0, answer));
        return answer >= 0 ? answer : answer + 99;
    }

    private static void is(String text, int cells) {
        Due.due("text of \"" + text + "\"", told(text), cells);
    }

    private static void isFault(String text, int place) {
        Due.due("FAULT of \"" + text + "\"", -1 - told(text), place);
    }

    private static void isShape(String text, String shape) {
        PagesByLevels x = new PagesByLevels();
        Due.text(x, 0, text);
        Due.same("what \"" + text + "\" tells", Due.shape(x, 0), shape);
    }

    private static void tape() {
        Due.sentence("THE TAPE takes bytes, 200 at most.");
        PagesByLevels x = new PagesByLevels();
        for (int i = 1; i <= 25; i++) {
            Due.due("eight more", x.feed(0x2020202020202020L, 8), 8 * i);
        }
        Due.due("one more than 200", x.feed(0x20, 1), -2);
        Due.due("200", x.many(3), 200);
        Due.due("it is read whole", x.text(0), 0);
        Due.due("it takes more then", x.feed(0x20, 1), 1);
        for (int i = 1; i < 200; i++) {
            Due.due("one more", x.feed(0x20, 1), i + 1);
        }
        Due.due("one more than 200", x.feed(0x20, 1), -2);
        is("0;".repeat(11) + " ".repeat(176) + "0;", 12);
        isFault("0;".repeat(11) + " ".repeat(177) + "0", 200);
        isFault(" ".repeat(199) + "5", 199);
        is(" ".repeat(198) + "4;", 1);
    }

    private static void cells() {
        Due.sentence("TEXT: { CELL ; }");
        is("", 0);
        is(" ", 0);
        is("0;", 1);
        is(TWELVE, 12);
        isFault(";", 0);
        isFault("0;;", 2);
        isFault("0", 1);
        isFault("0;0", 3);
        isFault("0,", 1);
    }

    private static void cellParts() {
        Due.sentence("CELL: N [ @ N [ N ] ] [ : ENTRY { , ENTRY } ]");
        is("0;1;", 2);
        is("0;1@2;", 2);
        is("0;1@2 3;", 2);
        is("0;1:0;", 2);
        is("0;1@2:0;", 2);
        is("0;1@2 3:0;", 2);
        is("0;0;1:0,1;", 3);
        is("0;0;1@2 3:0,1;", 3);
        isFault("@1;", 0);
        isFault(":0;", 0);
        isFault("0 1;", 2);
        isFault("0@;", 2);
        isFault("0@:0;", 2);
        isFault("0@1 2 3;", 6);
        isFault("0@1@2;", 3);
        isFault("0@1,2;", 3);
        isFault("0;1:0@1;", 5);
        isFault("0;1:;", 4);
        isFault("0;1::0;", 4);
        isFault("0;1:0:0;", 5);
        isFault("0;1:,0;", 4);
        isFault("0;1:0,;", 6);
        isFault("0;1:0,,0;", 6);
        isFault("0;1:0 0;", 6);
    }

    private static void entryParts() {
        Due.sentence("ENTRY: [ - ] N * N or [ - ] N.");
        isShape("0;1:2*0;", "0@0 0:0,0,;1@0 0:2,0,;");
        isShape("0;1:-2*0;", "0@0 0:0,0,;1@0 0:-2,0,;");
        isShape("0;1:0;", "0@0 0:0,0,;1@0 0:1,0,;");
        isShape("0;1:-0;", "0@0 0:0,0,;1@0 0:-1,0,;");
        isShape("0;0;1:-1,2*0;", "0@0 0:0,0,0,;0@0 0:0,0,0,;1@0 0:2,-1,0,;");
        isFault("0;1:+0;", 4);
        isFault("0;1:--0;", 5);
        isFault("0;1:-;", 5);
        isFault("0;1:2-0;", 4);
        isFault("0;1:0-;", 5);
        isFault("0;1:*0;", 4);
        isFault("0;1:-*0;", 5);
        isFault("0;1:2*;", 6);
        isFault("0;1:2*-0;", 6);
        isFault("0;1:2**0;", 6);
        isFault("0;1:2*0*0;", 7);
    }

    private static void degrees() {
        Due.sentence("The first N is the DEGREE;");
        for (int n = 0; n <= 99; n++) {
            PagesByLevels x = new PagesByLevels();
            Due.due("DEGREE " + n, Due.text(x, 0, " " + n + ";"), n <= 4 ? 1 : -101);
            Due.due("it is", x.of(0, 0, 0), n <= 4 ? n : -1);
            Due.due("DEGREE of two digits", Due.text(x, 1, n / 10 + "" + n % 10 + ";"), n <= 4 ? 1 : -100);
        }
    }

    private static void levels() {
        Due.sentence("behind @ LEVELS of WAY 0, and 1");
        for (int n = 0; n <= 99; n++) {
            PagesByLevels x = new PagesByLevels();
            Due.due("LEVEL " + n + " of WAY 0", Due.text(x, 0, "3@" + n + " 5;"), n <= 9 ? 1 : -102);
            Due.due("it is", x.of(0, 0, 1), n <= 9 ? n : -1);
            Due.due("the other one is 5", x.of(0, 0, 2), n <= 9 ? 5 : -1);
            Due.due("LEVEL " + n + " of WAY 1", Due.text(x, 1, "3@5 " + n + ";"), n <= 9 ? 1 : -104);
            Due.due("it is", x.of(1, 0, 2), n <= 9 ? n : -1);
            Due.due("the other one is 5", x.of(1, 0, 1), n <= 9 ? 5 : -1);
        }
        isShape("0@09 01;", "0@9 1:0,;");
        isFault("0@009;", 2);
        isFault("0@1 001;", 4);
        isFault("0@-1;", 2);
    }

    private static void secondLevels() {
        Due.sentence("(that of 0, if there is no second one; 0, if there is no @).");
        isShape("0@9;", "0@9 9:0,;");
        isShape("0@0;", "0@0 0:0,;");
        isShape("0@9 0;", "0@9 0:0,;");
        isShape("0@0 9;", "0@0 9:0,;");
        isShape("0;", "0@0 0:0,;");
        isShape("0@7;0;0@7 3;0;", "0@7 7:0,0,0,0,;0@0 0:0,0,0,0,;0@7 3:0,0,0,0,;0@0 0:0,0,0,0,;");
        isShape("0;1@4:2*0;", "0@0 0:0,0,;1@4 4:2,0,;");
    }

    private static void howOften() {
        Due.sentence("ENTRY: how often (0 to 9; 1, if there is no *)");
        for (int n = 0; n <= 99; n++) {
            PagesByLevels x = new PagesByLevels();
            Due.due(n + " times", Due.text(x, 0, "0;1:" + n + "*0;"), n <= 9 ? 2 : -104);
            Due.due("ENTRY", x.entryOf(0, 1, 0), n <= 9 ? 10 + n : -1);
            Due.due("-" + n + " times", Due.text(x, 1, "0;1:-" + n + "*0;"), n <= 9 ? 2 : -105);
            Due.due("ENTRY", x.entryOf(1, 1, 0), n <= 9 ? 10 - n : -1);
        }
        isShape("0;1:0;", "0@0 0:0,0,;1@0 0:1,0,;");
        isShape("0;1:-0;", "0@0 0:0,0,;1@0 0:-1,0,;");
        isShape("0;1:09*00;", "0@0 0:0,0,;1@0 0:9,0,;");
        isFault("0;1:009*0;", 4);
    }

    private static void toldAhead() {
        Due.sentence("and which CELL, one told ahead");
        for (int cells = 1; cells <= 11; cells++) {
            for (int n = 0; n <= 13; n++) {
                String text = "0;".repeat(cells) + "1:" + n + ";";
                PagesByLevels x = new PagesByLevels();
                int place = 2 * cells + 2;
                Due.due("CELL " + n + " of " + cells, Due.text(x, 0, text), n < cells ? cells + 1 : -100 - place);
                text = "0;".repeat(cells) + "1:3*" + n + ";";
                Due.due("3 of CELL " + n + " of " + cells, Due.text(x, 1, text), n < cells ? cells + 1 : -102 - place);
            }
        }
        isFault("1:0;", 2);
        isFault("1:1;0;", 2);
        isFault("0;1:99;", 4);
        isFault("0;1:2*99;", 6);
    }

    private static void mayHaveAnEntry() {
        Due.sentence("one told ahead that may have an ENTRY there");
        for (int of = 0; of <= 4; of++) {
            for (int in = 0; in <= 4; in++) {
                String text = in + ";" + of + ":0;";
                if (in == of - 1) {
                    is(text, 2);
                } else {
                    isFault(text, 4);
                }
            }
        }
        is("0@3 4;1@3 4:0;", 2);
        is("0@2 0;1@3 4:0;", 2);
        isFault("0@4 4;1@3 4:0;", 12);
        isFault("0@3 5;1@3 4:0;", 12);
        isFault("0@1 0;1:0;", 8);
        isFault("0@0 1;1:9*0;", 10);
        isFault("0@0 1;1:0*0;", 10);
        isFault("0;1;1:0,1;", 8);
    }

    private static void toldOnce() {
        Due.sentence("and for which none was told in it yet (0 times, too).");
        isFault("0;1:0,0;", 6);
        isFault("0;1:0*0,0;", 8);
        isFault("0;1:0,0*0;", 8);
        isFault("0;1:0*0,-0*0;", 11);
        isFault("0;0;1:0,1,0;", 10);
        isFault("0;0;1:1,0,01;", 10);
        is("0;0;1:0,1;1:0,1;1:1,0;", 5);
        is("0;0;0;0;0;0;0;0;0;0;0;1:10,9,8,7,6,5,4,3,2,1,0;", 12);
        isFault("0;0;0;0;0;0;0;0;0;0;0;1:10,9,8,7,6,5,4,3,2,1,0,10;", 47);
    }

    private static void digits() {
        Due.sentence("N: all digits that stand in a row, one or two of them; three or more are none.");
        is("4;", 1);
        is("04;", 1);
        isFault("004;", 0);
        isFault("0004;", 0);
        isFault("000000000000000000000000004;", 0);
        isFault("4294967296;", 0);
        isFault("0@000;", 2);
        isFault("0@0 000;", 4);
        is("0@00 00;", 1);
        is("0;1:00;", 2);
        isFault("0;1:000;", 4);
        isFault("0;1:000*0;", 4);
        is("0;1:01*00;", 2);
        isFault("0;1:01*000;", 7);
        isFault("0@100;", 2);
    }

    private static void blanks() {
        Due.sentence("Blanks (32) may stand anywhere but within N.");
        isShape("   0  @  1   2  ;   0   ;  1  @  3  4  :   -   2  *   0  ,   -   1   ;   ",
            "0@1 2:0,0,0,;0@0 0:0,0,0,;1@3 4:-2,-1,0,;");
        isShape("0@1 2;0;1@3 4:-2*0,-1;", "0@1 2:0,0,0,;0@0 0:0,0,0,;1@3 4:-2,-1,0,;");
        isFault("0 4;", 2);
        isFault("0@1 2 3;", 6);
        isFault("0;1:0 0;", 6);
        isFault("0;1:0 9*0;", 6);
        isFault("0;1:9*0 0;", 8);
        for (int b = 0; b < 256; b++) {
            if (b != 32) {
                isFault((char) b + "x", b >= '0' && b <= '4' ? 1 : 0);
            }
        }
    }

    private static void fault() {
        Due.sentence("FAULT: the place (from 0) of the first byte with which it can't go on");
        isFault("x", 0);
        isFault("0x", 1);
        isFault("0;x", 2);
        isFault("0; x", 3);
        isFault("0@x", 2);
        isFault("0@1x", 3);
        isFault("0@1 x", 4);
        isFault("0@1 2x", 5);
        isFault("0:x", 2);
        isFault("0;1:x", 4);
        isFault("0;1:-x", 5);
        isFault("0;1:0x", 5);
        isFault("0;1:0 x", 6);
        isFault("0;1:2*x", 6);
        isFault("0;1:2*0x", 7);
        isFault("0;1:2*0,x", 8);
        isFault("0;x1:5;9", 2);
        isFault("0;1;5;x", 4);
    }

    private static void faultOfNumber() {
        Due.sentence("(of an N that is not as told, or a thirteenth CELL, the place of its first byte)");
        isFault("5;", 0);
        isFault("  99;", 2);
        isFault("0@10;", 2);
        isFault("0@ 10;", 3);
        isFault("0@0 10;", 4);
        isFault("0;1: 10 * 0;", 5);
        isFault("0;1:- 10*0;", 6);
        isFault("0;1:1;", 4);
        isFault("0;1:- 1 ;", 6);
        isFault("0;1:11;", 4);
        isFault("0;1:5,", 4);
        isFault("0;1:5x", 4);
        isFault("0;1:5 5", 4);
        isFault("0;1:2* 11 ;", 7);
        isFault("0;1:0,12;", 6);
    }

    private static void faultOfThirteenth() {
        Due.sentence("or a thirteenth CELL, the place of its first byte");
        is(TWELVE, 12);
        is(TWELVE + "   ", 12);
        isFault(TWELVE + "0;", 24);
        isFault(TWELVE + "0", 24);
        isFault(TWELVE + "  0;", 26);
        isFault(TWELVE + "  04@1;", 26);
        isFault(TWELVE + "7;", 24);
        isFault(TWELVE + "x", 24);
        isFault(TWELVE + ";", 24);
        isFault(TWELVE.substring(0, 23), 23);
    }

    private static void faultAtTheEnd() {
        Due.sentence("or the end (how many bytes there are), if more must come.");
        String[] cut = {"0", "0 ", "0@", "0@ ", "0@1", "0@1 ", "0@1 2", "0@1 2 ", "0:", "0;1", "0;1:", "0;1: ", "0;1:-", "0;1:0",
            "0;1:0 ", "0;1:2*", "0;1:2* ", "0;1:2*0", "0;1:2*0 ", "0;1:0,", "0;1:0,-", "0;0;1:0,1", "0;0;1:0,3*", "0;0;1:0,3*1",
            "4", "04", "0@9", "0@09 09",
            // Behind the first N of an ENTRY a * may come yet: it may be any of 0 to 9.
            "0;1:9", "0;1:09 ", "1:5", "0;1:0,0", "0:4", "0@1;1:0", " 3 : - 4"};
        for (String text : cut) {
            isFault(text, text.length());
        }
        is("", 0);
        is("0;", 1);
        is("0; ", 1);
        isFault("5", 0);
        isFault("0@10", 2);
        isFault("0;1:10", 4);
        isFault("0;1:2*1", 6);
        isFault("0;1:2*0,2*0", 10);
        isFault("0;1:000", 4);
    }

    private static void faultOfEachByte() {
        Due.sentence("the first byte with which it can't go on");
        for (int b = 0; b < 256; b++) {
            char c = (char) b;
            boolean digit = b >= '0' && b <= '9';
            boolean blank = b == ' ';
            boolean end = c == ';';
            bytes("", c, blank ? 1 : c >= '0' && c <= '4' ? 1 : 0, blank);
            bytes("0", c, blank || c == '@' || c == ':' ? 2 : digit ? c <= '4' ? 2 : 0 : 1, end);
            bytes("0@", c, blank || digit ? 3 : 2, false);
            bytes("0@1", c, blank || c == ':' ? 4 : digit ? 2 : 3, end);
            bytes("0@1 ", c, blank || digit || c == ':' ? 5 : 4, end);
            bytes("0@1 2", c, blank || c == ':' ? 6 : digit ? 4 : 5, end);
            bytes("0;1:", c, blank || c == '-' || digit ? 5 : 4, false);
            bytes("0;1:-", c, blank || digit ? 6 : 5, false);
            bytes("0;1:0", c, blank || c == ',' || c == '*' || digit ? 6 : 5, end);
            bytes("0;1:2*", c, blank || c == '0' ? 7 : 6, false);
            bytes("0;1:2*0", c, blank || c == ',' || c == '0' ? 8 : digit ? 6 : 7, end);
        }
    }

    /** A byte more: the FAULT, or no FAULT at all. */
    private static void bytes(String ahead, char last, int fault, boolean none) {
        int answer = told(ahead + last);
        Due.due("\"" + ahead + "\" and " + (int) last, answer >= 0 ? -1 : -1 - answer, none ? -1 : fault);
    }

    private static void feed() {
        Due.sentence("The n lowest bytes of a number come to THE TAPE, the lowest first: how many it has.");
        String text = "0@1 2;  ";
        long eight = 0;
        for (int i = 0; i < 8; i++) {
            eight |= (long) text.charAt(i) << 8 * i;
        }
        for (int n = 1; n <= 8; n++) {
            PagesByLevels x = new PagesByLevels();
            Due.due("n " + n, x.feed(eight, n), n);
            Due.due("many " + n, x.many(3), n);
            Due.due("what they tell", x.text(0), n < 6 ? -100 - n : 1);
        }
        PagesByLevels x = new PagesByLevels();
        x.feed(0x3B33203140L << 8 | 0x30, 6);
        Due.due("six bytes", x.text(0), 1);
        Due.due("the fifth one", x.of(0, 0, 2), 3);
        x.feed(0x3B30L, 2);
        x.feed(0x3B31L, 2);
        Due.due("one behind another", x.text(0), 2);
        Due.due("in order", x.of(0, 1, 0), 1);
        x.feed(0xFF00000000003B30L, 2);
        Due.due("higher bytes don't come", x.text(0), 1);
        Due.due("bytes above 127", x.feed(-1L, 8), 8);
        Due.due("are bytes, but none of a TEXT", x.text(0), -100);
        x.feed(0x2020202020202020L, 8);
        x.feed(0x8000000000000000L | 0x20202020202020L, 8);
        Due.due("the highest byte of a number below 0", x.text(0), -115);
    }

    private static void feedBadAndFull() {
        Due.sentence("BAD: n is not 1 to 8; FULL.");
        for (int n : new int[] {0, -1, 9, Integer.MIN_VALUE, Integer.MAX_VALUE}) {
            PagesByLevels x = new PagesByLevels();
            Due.due("n " + n, x.feed(0x3B30L, n), -1);
            Due.due("no byte came", x.many(3), 0);
        }
        for (int n = 1; n <= 8; n++) {
            PagesByLevels x = new PagesByLevels();
            Due.feed(x, " ".repeat(201 - n));
            Due.due("n " + n + ", one more than there is place for", x.feed(0x3030303030303030L, n), -2);
            Due.due("no byte came", x.many(3), 201 - n);
            Due.due("BAD goes ahead", x.feed(0, 9), -1);
            Due.due("nor does it tell any", x.text(0), 0);
            Due.feed(x, " ".repeat(200 - n));
            Due.due("n " + n + ", as many as there is place for", x.feed(0x2020202020202020L, n), 200);
        }
    }

    private static void text() {
        Due.sentence("A COMPLEX becomes what THE TAPE tells: how many CELLS; -100 less the FAULT.");
        PagesByLevels x = Due.told(Scene.TEXTS[0]);
        Due.due("no bytes: no CELLS", x.text(0), 0);
        Due.due("what was there is gone", x.many(0), 0);
        Due.text(x, 0, Scene.TEXTS[0]);
        String was = Due.shape(x, 0);
        Due.due("the least FAULT", Due.text(x, 0, "x"), -100);
        Due.due("the greatest FAULT", Due.text(x, 0, "0" + " ".repeat(199)), -300);
        Due.due("the greatest place", Due.text(x, 0, "0" + " ".repeat(198) + "x"), -299);
        Due.same("a FAULT changes nothing", Due.shape(x, 0), was);
        Due.due("all is read once", x.many(3), 0);
        Due.due("a FAULT behind eleven CELLS", Due.text(x, 3, "0;".repeat(11) + "0"), -123);
        Due.due("none of them came", x.many(0), 6);
        Due.due("twelve", Due.text(x, 3, TWELVE), 12);
        Due.due("others stay", x.many(0), 18);
        Due.due("a BROKEN one", Due.text(x, 3, Scene.TEXTS[1]), 3);
        Due.due("is BROKEN", x.many(2), 8);
    }

    private static void textBad() {
        Due.sentence("BAD (THE TAPE stays).");
        for (int c : new int[] {-1, 4, Integer.MIN_VALUE, Integer.MAX_VALUE}) {
            PagesByLevels x = new PagesByLevels();
            Due.due("text of " + c, Due.text(x, c, "0;0@3;"), -1);
            Due.due("THE TAPE stays", x.many(3), 6);
            Due.due("it is read then", x.text(3), 2);
        }
    }
}
