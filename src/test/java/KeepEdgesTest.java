/** The edges of kinds and images: the document's part 4, promises 27 to 31. */
public final class KeepEdgesTest {
    private static final int BAD = -1, STATE = -2, NO = -1000000;
    private static final int LOW = Integer.MIN_VALUE, HIGH = Integer.MAX_VALUE;
    private static final Check check = new Check("KeepEdgesTest");

    public static void main(String[] args) {
        kindsOverOneAnother();
        marksBelow0();
        marksAtTheMost();
        markRefused();
        traceOfEachBody();
        traceOutlives();
        imagesNumbers();
        imageNotKept();
        imagesKeepNow();
        imagesKeepWhatMayBeUndone();
        imagesKeepNothingElse();
        imagesAreApart();
        imagesAreGone();
        countsNumbers();
        lastOf512Calls();
        check.ends();
    }

    private static void marksAre(String what, RegretPit x, int m, int... want) {
        for (int kind = 0; kind < want.length; kind++) {
            check.due(what + ": mark(" + kind + ", " + m + ")", x.mark(kind, m), want[kind]);
        }
    }

    private static void kindsOverOneAnother() {
        check.says("0 LUMP; 1 SIGH, 2 RING, 5 DUST (each under LUMP); 3 SALT (under SIGH); 4 SEAM (under RING)");
        RegretPit x = Check.told("m41 3;m30 0;m30 0;r0 1 7;e0 2 2;s0;");
        marksAre("20 and 3, 5 beside", x, 0, 20, 23, 20, 46, 25, 20);
        x.week(1);
        marksAre("10 and 3, a lump of 20, week 1", x, 0, 10, 13, -10, 26, -5, 11);
        marksAre("all others, whatever CAGE", Check.told("m4 0;m0 0;m0 0;m0 0;r0 1 9;r0 2 9;r0 3 9;c1;"), 0, 2, 2, 2, 4, 29, 2);
    }

    private static void marksBelow0() {
        check.says("RING up less his LUMP; SEAM up, and BESIDE (a number below 0)");
        RegretPit x = Check.told("m99 0;m0 0;m0 0;m0 0;m0 0;m0 0;e0 1 9;e0 2 9;e0 3 9;e0 4 9;e0 5 9;s0;");
        x.week(1);
        x.forgives(0);
        marksAre("not sorry", x, 0, 0, 0, -49, 0, -49 - 45, 1);
        check.due("-1 is a mark, too", Check.told("m0 0;m0 0;e0 1 1;").mark(4, 1), -1);
    }

    private static void marksAtTheMost() {
        check.says("LUMP half of what he is SORRY, cut");
        RegretPit x = Check.told("m99 9;m99 9;r0 1 9;s0;");
        marksAre("half of 99", x, 1, 49, 58, 49, 116, 58, 49);
        Check.quarrels(x, 0, 1, 18);
        marksAre("half of 999", x, 1, 499, 508, 499, 1016, 508, 499);
        marksAre("half of 1", Check.told("m1 0;"), 0, 0, 0, 0, 0, 0, 0);
    }

    private static void markRefused() {
        check.says("MARK. NO: BAD");
        RegretPit x = Check.told("m41 3;m30 0;");
        for (int bad : new int[] {-1, 6, LOW, HIGH}) {
            check.due("kind " + bad, x.mark(bad, 0), NO);
        }
        for (int bad : new int[] {-1, 2, 32, LOW, HIGH}) {
            check.due("man " + bad, x.mark(0, bad), NO);
        }
        check.due("no body was asked", x.trace(), 0);
        check.due("no men", new RegretPit().mark(0, 0), NO);
    }

    private static void traceOfEachBody() {
        check.says("numbers in brackets come to THE TRACE as often as mark() asks that body");
        int[] due = {1, 1 + 10, 1 + 100, 1 + 10 + 1000, 1 + 100 + 10000, 1 + 100000};
        for (int kind = 0; kind < 6; kind++) {
            RegretPit x = Check.told("m41 3;m30 0;");
            for (int i = 1; i <= 12; i++) {
                x.mark(kind, i % 2);
                check.due("kind " + kind + " asked " + i + " times", x.trace(), (long) i * due[kind]);
            }
        }
    }

    private static void traceOutlives() {
        check.says("THE TRACE (nothing takes from it)");
        RegretPit x = Check.told("m41 3;m30 0;");
        check.due("empty", x.trace(), 0);
        x.keep(0);
        x.mark(5, 0);
        x.week(1);
        x.undo();
        x.back(0);
        x.forget();
        x.clear();
        check.due("behind undo and back", x.trace(), 100001);
        x.pit();
        check.due("behind pit", x.trace(), 100001);
    }

    private static void imagesNumbers() {
        check.says("IMAGES 0, 1; BAD");
        RegretPit x = Check.told("m41 3;");
        for (int bad : new int[] {-1, 2, LOW, HIGH}) {
            check.due("keep(" + bad + ")", x.keep(bad), BAD);
            check.due("back(" + bad + ")", x.back(bad), BAD);
        }
        check.due("keep(0)", x.keep(0), 0);
        check.due("keep(1)", x.keep(1), 0);
        for (int bad : new int[] {-1, 2, LOW, HIGH}) {
            check.due("back(" + bad + "), both being kept", x.back(bad), BAD);
        }
    }

    private static void imageNotKept() {
        check.says("STATE: none was kept");
        RegretPit x = Check.told("m41 3;");
        check.due("back(0)", x.back(0), STATE);
        check.due("back(1)", x.back(1), STATE);
        x.keep(1);
        check.due("0 still is not", x.back(0), STATE);
        check.due("1 is", x.back(1), 0);
        x = new RegretPit();
        check.due("a new object has none", x.back(0), STATE);
        check.due("but keeps", x.keep(0), 0);
        x.week(0);
        check.due("nobody's image", x.back(0), 0);
        check.due("week 0", x.now(0), 0);
    }

    private static void imagesKeepNow() {
        check.says("keep NOW (how SORRY all are, HEAP, what was brought, THE WEEK)");
        RegretPit x = Check.told("m40 1;m60 2;");
        x.week(1);
        check.due("kept", x.keep(0), 1);
        x.week(3);
        x.quarrel(0, 1, 50);
        x.buys(0);
        check.due("back", x.back(0), 1);
        check.due("sorry 0", x.man(0, 0), 20);
        check.due("sorry 1", x.man(1, 0), 62);
        check.due("lump 0", x.man(0, 2), 20);
        check.due("lump 1", x.man(1, 2), 0);
        check.due("brought", x.now(1), 20);
        check.due("week", x.now(0), 1);
        x.forgives(1);
        check.due("back again: an image stays as it was kept", x.back(0), 1);
        check.due("sorry 1 again", x.man(1, 0), 62);
    }

    private static void imagesKeepWhatMayBeUndone() {
        check.says("IMAGES keep what may be UNDONE");
        RegretPit x = Check.told("m10 1;m60 2;");
        for (int i = 0; i < 12; i++) {
            x.week(0);
        }
        x.keep(1);
        for (int i = 0; i < 11; i++) {
            x.undo();
        }
        check.due("none is left", x.count(5), 0);
        Check.quarrels(x, 0, 1, 10);
        check.due("back", x.back(1), 12);
        check.due("ten may be undone", x.count(5), 10);
        for (int i = 9; i >= 0; i--) {
            check.due("undone", x.undo(), i);
            check.due("the week", x.now(0), 2 + i);
            check.due("sorry", x.man(0, 0), 12 + i);
        }
        check.due("no more", x.undo(), STATE);
        check.due("back is no deed", x.back(1), 12);
        check.due("ten still", x.count(5), 10);
        x.week(0);
        check.due("ten at most", x.count(5), 10);
    }

    private static void imagesKeepNothingElse() {
        check.says("IMAGES keep NOW; nothing else");
        RegretPit x = Check.told("m10 1;m60 2;");
        x.keep(0);
        x.keep(1);
        x.lights(1, 5);
        x.lights(2, 30);
        x.tells(0, 3);
        x.mark(0, 0);
        Check.types(x, "m1 1;");
        check.due("back", x.back(0), 0);
        int[] counts = {2, 3, 5, 2, 1, 0, 5};
        for (int i = 0; i < counts.length; i++) {
            check.due("count(" + i + ")", x.count(i), counts[i]);
        }
        check.due("trace", x.trace(), 1);
        check.due("the other image", x.back(1), 0);
        check.due("the text", x.pit(), 1);
    }

    private static void imagesAreApart() {
        check.says("An IMAGE is kept");
        RegretPit x = Check.told("m10 1;m60 2;");
        x.keep(0);
        x.week(0);
        x.keep(1);
        x.week(0);
        check.due("0", x.back(0), 0);
        check.due("1 from 0", x.back(1), 1);
        check.due("sorry", x.man(0, 0), 11);
        x.week(0);
        check.due("kept anew", x.keep(0), 2);
        check.due("1 stays", x.back(1), 1);
        check.due("0 is the later one", x.back(0), 2);
        check.due("sorry then", x.man(0, 0), 12);
    }

    private static void imagesAreGone() {
        check.says("Read anew: IMAGES are gone");
        RegretPit x = Check.told("m10 1;m60 2;");
        x.keep(0);
        x.keep(1);
        x.type('m');
        check.due("a fault", x.pit(), -11);
        check.due("stays behind a fault", x.back(0), 0);
        x.clear();
        check.due("read anew", x.pit(), 0);
        check.due("0 is gone", x.back(0), STATE);
        check.due("1 is gone", x.back(1), STATE);
    }

    private static void countsNumbers() {
        check.says("count: 0 .. 6. BAD");
        RegretPit x = Check.told("m10 1;m60 2;c4;s7;");
        x.lights(1, 5);
        x.tells(0, 3);
        x.tells(0, 3);
        x.week(0);
        x.week(0);
        x.week(0);
        Check.types(x, "abcdef");
        int[] counts = {2, 4, 7, 1, 2, 3, 6};
        for (int i = 0; i < counts.length; i++) {
            check.due("count(" + i + ")", x.count(i), counts[i]);
        }
        for (int bad : new int[] {-1, 7, LOW, HIGH}) {
            check.due("count(" + bad + ")", x.count(bad), BAD);
        }
    }

    private static void lastOf512Calls() {
        check.says("An object is used for at most 512 calls after it has been made");
        RegretPit x = Check.told("m10 1;m60 2;");
        for (int i = 14; i <= 510; i++) {
            check.due("call " + i, x.mark(5, 0), 5);
        }
        check.due("call 511", x.trace(), 497L * 100001);
        check.due("call 512", x.week(3), 35);
    }
}
