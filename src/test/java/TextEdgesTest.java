/** The edges of the text and of what it tells: the document's TERMS, promises 1 to 6 and 30. */
public final class TextEdgesTest {
    private static final int BAD = -1, STATE = -2, FULL = -3, NO = -1000000;
    private static final String TWO = "m1 1;m1 1;";
    private static final Check check = new Check("TextEdgesTest");

    public static void main(String[] args) {
        sixMenAtMost();
        howSorryAtFirst();
        growing();
        besideFromMinus9To9();
        besideNotTold();
        cage();
        shale();
        textOf150Bytes();
        readsA150ByteText();
        blanksAre32();
        toldAhead();
        unlike();
        laterOneHolds();
        onceEachAtMost();
        bytesThatBeginNone();
        tokensSideBySide();
        lettersThatBeginNoItem();
        numberBeyond();
        numberAbove99();
        zeroAheadOfOthers();
        tokenOutOfPlace();
        endsTooEarly();
        firstFaultOfSeveral();
        emptyText();
        faultChangesNothing();
        readAnew();
        newObject();
        check.ends();
    }

    private static int pitOf(String text) {
        RegretPit x = new RegretPit();
        Check.types(x, text);
        return x.pit();
    }

    private static void items(String text, int items) {
        check.due("pit of \"" + text + "\"", pitOf(text), items);
    }

    private static void fault(String text, int place) {
        check.due("pit of \"" + text + "\"", pitOf(text), -10 - place);
    }

    private static void sixMenAtMost() {
        check.says("(6 of them at most); a seventh man");
        String six = "m0 0;".repeat(6);
        items(six, 6);
        check.due("men", Check.told(six).count(0), 6);
        fault(six + "m0 0;", 30);
        fault(six + "  m", 32);
        items(six + "c1;s1;r0 5 1;", 9);
    }

    private static void howSorryAtFirst() {
        check.says("SORRY (0 .. 99)");
        check.due("least", Check.told("m0 1;").man(0, 0), 0);
        check.due("most", Check.told("m99 1;").man(0, 0), 99);
        fault("m100 1;", 1);
    }

    private static void growing() {
        check.says("GROWS (0 .. 9 a WEEK)");
        check.due("least", Check.told("m1 0;").man(0, 1), 0);
        check.due("most", Check.told("m1 9;").man(0, 1), 9);
        fault("m1 10;", 3);
        fault("m1 99;", 3);
    }

    private static void besideFromMinus9To9() {
        check.says("BESIDE: -9 to 9; by N, 0 .. 9");
        for (int n = 0; n <= 9; n++) {
            check.due("reminds", Check.told(TWO + "r0 1 " + n + ";").beside(0, 1), n);
            check.due("eases", Check.told(TWO + "e0 1 " + n + ";").beside(0, 1), -n);
        }
        fault(TWO + "r0 1 10;", 15);
        fault(TWO + "e0 1 10;", 15);
    }

    private static void besideNotTold() {
        check.says("(0, if it is not told)");
        RegretPit x = Check.told("m1 1;m1 1;m1 1;r0 2 4;");
        check.due("not told", x.beside(0, 1), 0);
        check.due("nor the other way", x.beside(1, 0), 0);
        check.due("told", x.beside(2, 0), 4);
        check.due("alike", x.beside(1, 1), NO);
    }

    private static void cage() {
        check.says("CAGE (1 .. 6 MEN in a SHIFT; 3 at first)");
        check.due("at first", new RegretPit().count(1), 3);
        check.due("not told", Check.told("m1 1;").count(1), 3);
        for (int n = 1; n <= 6; n++) {
            check.due("told", Check.told("c" + n + ";").count(1), n);
        }
        fault("c0;", 1);
        fault("c7;", 1);
        fault("c99;", 1);
    }

    private static void shale() {
        check.says("SHALE (0 .. 50; 5 at first)");
        check.due("at first", new RegretPit().count(2), 5);
        check.due("not told", Check.told("m1 1;").count(2), 5);
        check.due("least", Check.told("s0;").count(2), 0);
        check.due("most", Check.told("s50;").count(2), 50);
        fault("s51;", 1);
        fault("s99;", 1);
    }

    private static void textOf150Bytes() {
        check.says("a text (150 bytes at most); type: BAD; FULL");
        RegretPit x = new RegretPit();
        for (int i = 1; i <= 150; i++) {
            check.due("byte " + i, x.type(i == 1 ? 0 : i == 2 ? 255 : i), i);
        }
        check.due("one more", x.type(32), FULL);
        check.due("the least byte, too", x.type(0), FULL);
        check.due("BAD is ahead of FULL", x.type(256), BAD);
        check.due("BAD below is, too", x.type(-1), BAD);
        check.due("bytes", x.count(6), 150);
        check.due("cleared", x.clear(), 150);
        check.due("one again", x.type(32), 1);
        int[] bad = {-1, 256, Integer.MIN_VALUE, Integer.MAX_VALUE, -256, 256 + 'm', 1 << 16};
        for (int b : bad) {
            check.due("type(" + b + ")", x.type(b), BAD);
        }
        check.due("none of these came", x.count(6), 1);
    }

    private static void readsA150ByteText() {
        check.says("read byte by byte (150 of them)");
        String items = TWO + "r0 1 5;".repeat(19) + "e0 1 9;";
        check.due("its length", items.length(), 150);
        items(items, 22);
        check.due("the last one counts", Check.told(items).beside(1, 0), -9);
        items("m1 1;" + " ".repeat(145), 1);
        items(" ".repeat(145) + "m1 1;", 1);
        fault(" ".repeat(149) + "m", 150);
        fault(" ".repeat(149) + "1", 149);
        RegretPit x = new RegretPit();
        Check.types(x, " ".repeat(146) + "m1 1;");
        check.due("the 151st byte did not come", x.pit(), -160);
    }

    private static void blanksAre32() {
        check.says("blanks (32) between TOKENS");
        items("   m   1   1   ;   c   2   ;   ", 2);
        int[] none = {0, 9, 10, 11, 12, 13, 31, 33, 127, 128, 133, 160, 255};
        for (int c : none) {
            fault("m1" + (char) c + "1;", 2);
            fault((char) c + "m1 1;", 0);
            fault("m1 1;" + (char) c, 5);
        }
    }

    private static void toldAhead() {
        check.says("r A B N (told ahead)");
        fault("r0 1 1;", 1);
        fault("e0 1 1;", 1);
        fault("m1 1;r0 1 1;m1 1;", 8);
        fault("m1 1;e1 0 1;m1 1;", 6);
        fault(TWO + "r2 0 1;", 11);
        fault(TWO + "e0 2 1;", 13);
        items("m0 0;".repeat(6) + "e5 4 1;", 7);
        fault("m0 0;".repeat(6) + "e5 6 1;", 33);
    }

    private static void unlike() {
        check.says("unlike; B that is A");
        fault(TWO + "r0 0 1;", 13);
        fault(TWO + "e1 1 1;", 13);
        fault("m0 0;r0 0 1;", 8);
        fault(TWO + "r0 0 100;", 13);
        fault(TWO + "r1 1", 13);
    }

    private static void laterOneHolds() {
        check.says("of r, e of the same two the later one holds");
        String[] texts = {"r0 1 3;e0 1 4;", "e0 1 4;r0 1 3;", "r0 1 3;r1 0 7;", "e1 0 3;e0 1 9;", "r0 1 9;e1 0 0;", "e0 1 9;r1 0 0;"};
        int[] due = {-4, 3, 7, -9, 0, 0};
        for (int i = 0; i < texts.length; i++) {
            RegretPit x = Check.told(TWO + texts[i]);
            check.due(texts[i], x.beside(0, 1), due[i]);
            check.due(texts[i] + " the other way", x.beside(1, 0), due[i]);
        }
    }

    private static void onceEachAtMost() {
        check.says("c, s once each at most; c, s again");
        items("c1;s1;", 2);
        fault("c1;c1;", 3);
        fault("c1;s1;c2;", 6);
        fault("s1;s1;", 3);
        fault("s0;c1;  s", 8);
        RegretPit x = Check.told("c1;s1;");
        Check.types(x, "c2;s2;");
        check.due("once in each text", x.pit(), 2);
        Check.types(x, "c2;c3;");
        check.due("again in one text", x.pit(), -13);
        x.clear();
        Check.types(x, "c4;s3;");
        check.due("a fault is forgotten", x.pit(), 2);
    }

    private static void bytesThatBeginNone() {
        check.says("of a byte that begins none");
        for (int c = 0; c <= 255; c++) {
            boolean begins = c == ' ' || c == ';' || c >= '0' && c <= '9' || c >= 'a' && c <= 'z';
            if (!begins) {
                fault(String.valueOf((char) c), 0);
                fault("m" + (char) c + "1;", 1);
                fault("m1 1" + (char) c, 4);
            }
        }
    }

    private static void tokensSideBySide() {
        check.says("letters a .. z side by side, NUMBERS and ;");
        for (char c = 'a'; c <= 'z'; c++) {
            boolean item = "mrecs".indexOf(c) >= 0;
            fault(String.valueOf(c), item ? 1 : 0);
            fault("m" + c + " 1 1;", 0);
            fault("m1 1;" + c + "a", 5);
        }
        for (int d = 0; d <= 9; d++) {
            check.due("digit", Check.told("m" + d + " " + d + ";").man(0, 1), d);
        }
        fault("m11;", 3);
        fault("m1 1m;", 4);
        fault("m1m1;", 2);
        items("m1 1;m 1 1 ;", 2);
    }

    private static void lettersThatBeginNoItem() {
        check.says("letters that begin no ITEM");
        for (String letters : new String[] {"a", "z", "mm", "cs", "ms", "rr", "ee", "man", "x"}) {
            fault(letters + "1 1;", 0);
            fault("m1 1; " + letters, 6);
        }
    }

    private static void numberBeyond() {
        check.says("a NUMBER beyond what it may be");
        fault("m1 10;", 3);
        fault(TWO + "r2 1 1;", 11);
        fault(TWO + "r99 1 1;", 11);
        fault(TWO + "r1 2 1;", 13);
        fault(TWO + "r0 1 99;", 15);
        fault("c 0;", 2);
        fault("s  51;", 3);
    }

    private static void numberAbove99() {
        check.says("a NUMBER above 99, that TOKEN's");
        items("m99 1;", 1);
        fault("m100 1;", 1);
        fault("m999 1;", 1);
        fault("m1 100;", 3);
        fault("c100;", 1);
        fault("s100;", 1);
        fault(TWO + "r0 1 100;", 15);
        fault("100", 0);
        // numbers that come round to 1 or 5 if 32 or 64 bits overflow
        fault("m4294967297 1;", 1);
        fault("m18446744073709551617 1;", 1);
        fault("s4294967301;", 1);
        fault("s" + "9".repeat(149), 1);
    }

    private static void zeroAheadOfOthers() {
        check.says("with a 0 ahead of others, that TOKEN's");
        items("m0 0;s0;", 2);
        fault("m00 0;", 1);
        fault("m01 0;", 1);
        fault("m099 0;", 1);
        fault("m0 00;", 3);
        fault("m0 09;", 3);
        fault("c01;", 1);
        fault("s05;", 1);
        fault("s000;", 1);
        fault(TWO + "r0 01 1;", 13);
        fault("00", 0);
        fault("m1 1 00", 5);
    }

    private static void tokenOutOfPlace() {
        check.says("the first TOKEN that can't stand there");
        fault(";", 0);
        fault("m1 1;;", 5);
        fault("m;", 1);
        fault("m1;", 2);
        fault("m1 1 1;", 5);
        fault("m1 1 c2;", 5);
        fault("c;", 1);
        fault("c1 1;", 3);
        fault("s1 s;", 3);
        fault(TWO + "r;", 11);
        fault(TWO + "r0;", 12);
        fault(TWO + "r0 1;", 14);
        fault(TWO + "r0 1 1 1;", 17);
        fault(TWO + "ra 1 1;", 10);
        fault(TWO + "r a 1 1;", 12);
        fault("7", 0);
    }

    private static void endsTooEarly() {
        check.says("the text's length, if it ends too early");
        String text = "m12 3;m4 5;r0 1 4;e1 0 7;c2;s6;";
        int items = 0;
        for (int length = 0; length <= text.length(); length++) {
            String part = text.substring(0, length);
            boolean whole = part.isEmpty() || part.endsWith(";");
            items += part.endsWith(";") ? 1 : 0;
            check.due("pit of \"" + part + "\"", pitOf(part), whole ? items : -10 - length);
            check.due("pit of \"" + part + "\" and blanks", pitOf(part + "  "), whole ? items : -12 - length);
        }
    }

    private static void firstFaultOfSeveral() {
        check.says("the first TOKEN that can't stand there, of several");
        fault("m1 1;x;$", 5);
        fault("m1 1;c9;$", 6);
        fault("$x", 0);
        fault("c1;c01;", 3);
        fault("m10 10;100", 4);
        fault("m1 1;r0 0 100;", 8);
        fault("s51 51;", 1);
        fault("m1 10", 3);
        fault("x", 0);
    }

    private static void emptyText() {
        check.says("an empty text");
        items("", 0);
        items("      ", 0);
        check.due("clear", new RegretPit().clear(), 0);
        RegretPit x = Check.told("m1 1;c6;s50;");
        check.due("it tells all", x.pit(), 0);
        check.due("nobody", x.count(0), 0);
        check.due("cage as at first", x.count(1), 3);
        check.due("shale as at first", x.count(2), 5);
    }

    private static void faultChangesNothing() {
        check.says("-10 less FAULT: nothing changes");
        RegretPit x = Check.told("m1 1;m2 2;r0 1 3;c2;s4;");
        Check.types(x, "m9 9;m8 8;m7 7;e0 1 9;c5;s40;m6");
        check.due("a fault", x.pit(), -41);
        int[] counts = {2, 2, 4, 0, 0, 0, 31};
        for (int i = 0; i < counts.length; i++) {
            check.due("count(" + i + ")", x.count(i), counts[i]);
        }
        check.due("sorry", x.man(1, 0), 2);
        check.due("grows", x.man(1, 1), 2);
        check.due("beside", x.beside(0, 1), 3);
        check.due("the fault again", x.pit(), -41);
        Check.types(x, " 5;");
        check.due("the text goes on", x.pit(), 7);
        check.due("four men", x.count(0), 4);
        check.due("the fourth", x.man(3, 1), 5);
        check.due("it is empty then", x.count(6), 0);
    }

    private static void readAnew() {
        check.says("(Read anew: as told, WEEK 0, no HEAP, nothing LIT, TOLD or to be UNDONE, IMAGES are gone.)");
        RegretPit x = Check.told("m50 1;m60 2;m70 3;r0 1 3;e0 2 9;c2;s4;");
        x.week(3);
        x.keep(0);
        x.keep(1);
        x.lights(1, 1);
        x.tells(1, 1);
        Check.types(x, "m50 1;m60 2;");
        check.due("items", x.pit(), 2);
        int[] counts = {2, 3, 5, 0, 0, 0, 0};
        for (int i = 0; i < counts.length; i++) {
            check.due("count(" + i + ")", x.count(i), counts[i]);
        }
        int[] nows = {0, 0, 110, 0, 31};
        for (int i = 0; i < nows.length; i++) {
            check.due("now(" + i + ")", x.now(i), nows[i]);
        }
        check.due("lump", x.man(0, 2), 0);
        check.due("beside", x.beside(0, 1), 0);
        check.due("the third man is gone", x.man(2, 0), BAD);
        check.due("undo", x.undo(), STATE);
        check.due("back(0)", x.back(0), STATE);
        check.due("back(1)", x.back(1), STATE);
        check.due("all laws fit", x.fit(0), 100);
        check.due("nothing lights", x.whose(), 3);
    }

    private static void newObject() {
        check.says("RegretPit(): As told; nobody");
        RegretPit x = new RegretPit();
        int[] counts = {0, 3, 5, 0, 0, 0, 0};
        for (int i = 0; i < counts.length; i++) {
            check.due("count(" + i + ")", x.count(i), counts[i]);
        }
        check.due("count(-1)", x.count(-1), BAD);
        check.due("count(7)", x.count(7), BAD);
        check.due("man 0", x.man(0, 0), BAD);
        check.due("two men", x.beside(0, 1), NO);
        check.due("trace", x.trace(), 0);
    }
}
