/** Every promise of the document by its number, with answers worked out by hand. */
public final class PromisesTest {
    private static final int BAD = -1, STATE = -2, FULL = -3, NONE = -9, NO = -1000000;
    private static final int LOW = Integer.MIN_VALUE, HIGH = Integer.MAX_VALUE;
    /** Three men; 0 and 1 remind one another by 5, 1 and 2 ease one another by 9. */
    private static final String THREE = "m10 2;m21 0;m98 9;r0 1 5;e1 2 9;c2;s6;";
    private static final Check check = new Check("PromisesTest");

    public static void main(String[] args) {
        promise1New();
        promise2Type();
        promise3Clear();
        promise4Pit();
        promise4Faults();
        promise4ReadAnew();
        promise5Man();
        promise6Beside();
        promise7Week();
        promise7Bounds();
        promise8Quarrel();
        promise9Forgives();
        promise10Buys();
        promise11Undo();
        promise12Now();
        promise13YieldOf();
        promise14Best();
        promise15Plan();
        promise16Lean();
        promise17Still();
        promise18Temper();
        promise19Mates();
        promise20Lights();
        promise21Forget();
        promise22Whose();
        promise23Sold();
        promise24Tells();
        promise25Fit();
        promise26Below();
        promise27Mark();
        promise28Keep();
        promise29Back();
        promise30Count();
        promise31Trace();
        check.ends();
    }

    private static void due(String what, long got, long want) {
        check.due(what, got, want);
    }

    private static void promise1New() {
        RegretPit x = new RegretPit();
        int[] counts = {0, 3, 5, 0, 0, 0, 0};
        for (int i = 0; i < counts.length; i++) {
            due("1: count(" + i + ")", x.count(i), counts[i]);
        }
        for (int i = 0; i < 5; i++) {
            due("1: now(" + i + ")", x.now(i), 0);
        }
        due("1: trace", x.trace(), 0);
        due("1: man", x.man(0, 0), BAD);
        due("1: beside", x.beside(0, 1), NO);
        due("1: undo", x.undo(), STATE);
        due("1: back(0)", x.back(0), STATE);
        due("1: back(1)", x.back(1), STATE);
        due("1: week(0)", x.week(0), 0);
        due("1: week(1)", x.week(1), BAD);
        due("1: the week", x.now(0), 1);
        due("1: mates(-1)", x.mates(-1), 0);
        due("1: mates(0)", x.mates(0), NO);
        due("1: lights", x.lights(1, 0), BAD);
        due("1: best", x.best(0), 0);
        due("1: lean", x.lean(0, 1), 1);
        due("1: still", x.still(0, 1, 0), BAD);
        due("1: temper", x.temper(0), 0);
        due("1: mark", x.mark(0, 0), NO);
        due("1: below upper", x.below(5, 3, 0), 0);
        due("1: below lower", x.below(5, 3, 1), 1);
    }

    private static void promise2Type() {
        RegretPit x = new RegretPit();
        due("2: -1", x.type(-1), BAD);
        due("2: 256", x.type(256), BAD);
        due("2: lowest", x.type(LOW), BAD);
        due("2: highest", x.type(HIGH), BAD);
        due("2: 0", x.type(0), 1);
        due("2: 255", x.type(255), 2);
        for (int i = 3; i <= 150; i++) {
            due("2: byte", x.type(32), i);
        }
        due("2: full", x.type(32), FULL);
        due("2: bad ahead of full", x.type(256), BAD);
        due("2: nothing came", x.count(6), 150);
        due("2: a full text is read", x.pit(), -10);
    }

    private static void promise3Clear() {
        RegretPit x = new RegretPit();
        due("3: empty", x.clear(), 0);
        Check.types(x, "m1 1;");
        due("3: five", x.clear(), 5);
        due("3: empty then", x.count(6), 0);
        due("3: no men of it", x.pit(), 0);
        due("3: nobody", x.count(0), 0);
    }

    private static int pitOf(String text) {
        RegretPit x = new RegretPit();
        Check.types(x, text);
        int answer = x.pit();
        due("4: what is left of '" + text + "'", x.count(6), answer < 0 ? text.length() : 0);
        return answer;
    }

    private static void promise4Pit() {
        due("4: no items", pitOf(""), 0);
        due("4: blanks alone", pitOf("    "), 0);
        due("4: one", pitOf("m0 0;"), 1);
        due("4: greatest", pitOf("m99 9;m99 9;r0 1 9;e1 0 9;c6;s50;"), 6);
        due("4: least", pitOf("m0 0;m0 0;r0 1 0;e1 0 0;c1;s0;"), 6);
        due("4: blanks anywhere", pitOf("  m  5   6  ;  c 2 ;s 3;  "), 3);
        due("4: six men", pitOf("m1 1;m1 1;m1 1;m1 1;m1 1;m1 1;"), 6);
        RegretPit x = Check.told("m1 2;m3 4;m5 6;r0 1 7;e0 2 8;e1 0 3;r2 0 1;c4;s9;");
        due("4: the later one holds", x.beside(0, 1), -3);
        due("4: the later one holds, too", x.beside(0, 2), 1);
        due("4: not told", x.beside(1, 2), 0);
        due("4: cage", x.count(1), 4);
        due("4: shale", x.count(2), 9);
        due("4: men", x.count(0), 3);
    }

    private static void promise4Faults() {
        String[] texts = {
            "m", "m1", "m1 ", "m1 1", "m1 1  ", "r", "m1 1;r", "m1 1;m1 1;r0 1", "c", "s",
            "M1 1;", "m1,1;", "m1 1;\t", "(", "m-1 1;",
            "m100 1;", "m1 10;", "m01 1;", "m00 1;", "m1 01;", "m999999999999 1;", "m1 1 1;", "m1;", "m;", "m1m 1;",
            "mm1 1;", "a", "ma 1;", "m1 1;;", ";", "5", "1 1;",
            "r0 1 1;", "m1 1;r1 0 1;", "m1 1;r0 1 1;", "m1 1;m1 1;r0 0 1;", "m1 1;m1 1;r0 1 10;", "m1 1;m1 1;e0 1;",
            "r0 1 1;m1 1;m1 1;", "m1 1;m1 1;e1 2 1;", "m1 1;m1 1;r0 1 1 1;",
            "c0;", "c7;", "c1;c1;", "c1;m1 1;c 2;", "c1 1;", "s51;", "s1;s1;", "s100;", "s;", "cs;",
            "m1 1;m1 1;m1 1;m1 1;m1 1;m1 1;m1 1;", "m1 1;m1 1;m1 1;m1 1;m1 1;m1 1; m",
        };
        int[] places = {
            1, 2, 3, 4, 6, 1, 6, 14, 1, 1,
            0, 2, 5, 0, 1,
            1, 3, 1, 1, 3, 1, 5, 2, 1, 2,
            0, 0, 0, 5, 0, 0, 0,
            1, 6, 8, 13, 15, 14,
            1, 13, 17,
            1, 1, 3, 8, 3, 1, 3, 1, 1, 0,
            30, 31,
        };
        due("4: rows of the same length", places.length, texts.length);
        for (int i = 0; i < texts.length; i++) {
            due("4: pit of '" + texts[i] + "'", pitOf(texts[i]), -10 - places[i]);
        }
        RegretPit x = new RegretPit();
        x.type('m');
        x.type(0);
        due("4: byte 0 begins none", x.pit(), -11);
        x.clear();
        x.type(255);
        due("4: byte 255 begins none", x.pit(), -10);
        x.clear();
        Check.types(x, "m1 1;zz");
        due("4: z is a letter", x.pit(), -15);
        x.clear();
        Check.types(x, "m1 1;");
        due("4: read behind faults", x.pit(), 1);
    }

    private static void promise4ReadAnew() {
        RegretPit x = Check.told(THREE);
        x.week(3);
        x.keep(0);
        x.lights(1, 1);
        x.tells(1, 1);
        x.mark(0, 0);
        Check.types(x, "m5 5;m5");
        due("4: a fault", x.pit(), -17);
        due("4: nothing changes: men", x.count(0), 3);
        due("4: nothing changes: cage", x.count(1), 2);
        due("4: nothing changes: heap", x.man(1, 2), 13);
        due("4: nothing changes: week", x.now(0), 1);
        due("4: nothing changes: lit", x.count(3), 1);
        due("4: nothing changes: told", x.count(4), 1);
        due("4: nothing changes: image", x.back(0), 1);
        due("4: nothing changes: text", x.clear(), 7);
        Check.types(x, "m7 1;m8 1;");
        due("4: anew", x.pit(), 2);
        int[] counts = {2, 3, 5, 0, 0, 0, 0};
        for (int i = 0; i < counts.length; i++) {
            due("4: anew count(" + i + ")", x.count(i), counts[i]);
        }
        due("4: anew week", x.now(0), 0);
        due("4: anew brought", x.now(1), 0);
        due("4: anew heap", x.now(3), 0);
        due("4: anew sorry", x.man(1, 0), 8);
        due("4: anew beside", x.beside(0, 1), 0);
        due("4: anew undo", x.undo(), STATE);
        due("4: anew image", x.back(0), STATE);
        due("4: the trace stays", x.trace(), 1);
        due("4: an empty text is nobody", x.pit(), 0);
        due("4: nobody", x.count(0), 0);
        due("4: nobody has a pay", x.now(4), 0);
    }

    private static void promise5Man() {
        RegretPit x = Check.told(THREE);
        int[][] all = {{10, 2, 0}, {21, 0, 0}, {98, 9, 0}};
        for (int m = 0; m < 3; m++) {
            for (int what = 0; what < 3; what++) {
                due("5: man(" + m + ", " + what + ")", x.man(m, what), all[m][what]);
            }
        }
        x.week(3);
        due("5: lump of 0", x.man(0, 2), 7);
        due("5: sorry of 0", x.man(0, 0), 8);
        due("5: lump of 2", x.man(2, 2), 0);
        int[][] bad = {{-1, 0}, {3, 0}, {0, -1}, {0, 3}, {LOW, 0}, {HIGH, 0}, {0, LOW}, {0, HIGH}};
        for (int[] b : bad) {
            due("5: bad", x.man(b[0], b[1]), BAD);
        }
    }

    private static void promise6Beside() {
        RegretPit x = Check.told(THREE);
        due("6: they remind", x.beside(0, 1), 5);
        due("6: both ways", x.beside(1, 0), 5);
        due("6: they ease", x.beside(2, 1), -9);
        due("6: not told", x.beside(0, 2), 0);
        int[][] bad = {{0, 0}, {2, 2}, {0, 3}, {3, 0}, {-1, 0}, {0, -1}, {LOW, HIGH}, {HIGH, 1}};
        for (int[] b : bad) {
            due("6: bad", x.beside(b[0], b[1]), NO);
        }
    }

    private static void promise7Week() {
        RegretPit x = Check.told(THREE);
        int[] bad = {7, 8, -1, LOW, HIGH, 16};
        for (int b : bad) {
            due("7: not a shift", x.week(b), BAD);
        }
        due("7: nothing changed", x.now(0) + x.count(5), 0);
        due("7: two who remind", x.week(3), 20);
        due("7: left 0", x.man(0, 0), 8);
        due("7: left 1", x.man(1, 0), 13);
        due("7: grown 2", x.man(2, 0), 107);
        due("7: lump 0", x.man(0, 2), 7);
        due("7: lump 1", x.man(1, 2), 13);
        due("7: less than shale", x.week(1), 0);
        due("7: but cut", x.man(0, 0), 4);
        due("7: the lump that brought coins stays", x.man(0, 2), 7);
        due("7: two who ease", x.week(6), 53);
        due("7: eased down to 4, cut 2", x.man(1, 0), 2);
        due("7: eased down to 107", x.man(2, 0), 54);
        due("7: lump of 1 stays", x.man(1, 2), 13);
        due("7: lump of 2", x.man(2, 2), 53);
        due("7: grown 0", x.man(0, 0), 6);
        due("7: in all", x.now(1), 73);
        due("7: weeks", x.now(0), 3);
        due("7: nobody", x.week(0), 0);
        due("7: not below 0", x.week(6), 27);
        due("7: stays at 0", x.man(1, 0), 0);
        x = Check.told("m1 0;s0;");
        due("7: cut is 0", x.week(1), 0);
        due("7: stays 1", x.man(0, 0), 1);
        due("7: a lump of no coins is none", x.man(0, 2), 0);
        x = Check.told("m2 0;s0;");
        due("7: a lump of one coin", x.week(1), 1);
        due("7: is one", x.man(0, 2), 1);
        due("7: just shale", Check.told("m12 0;s6;").week(1), 6);
        due("7: below shale", Check.told("m11 0;s6;").week(1), 0);
    }

    private static void promise7Bounds() {
        RegretPit x = Check.told("m99 9;m99 9;r0 1 9;");
        for (int i = 0; i < 18; i++) {
            x.quarrel(0, 1, 50);
        }
        due("7: all sorry", x.man(0, 0), 999);
        x.week(0);
        due("7: grows to 999 at most", x.man(1, 0), 999);
        due("7: reminded to 999 at most", x.week(3), 998);
        due("7: left of 999", x.man(0, 0), 500);
        x = Check.told("m5 1;s0;");
        for (int i = 0; i < 300; i++) {
            x.week(0);
        }
        due("7: week 300", x.now(0), 300);
        due("7: state", x.week(0), STATE);
        due("7: bad ahead of state", x.week(2), BAD);
        due("7: a yield all the same", x.yieldOf(1), 152);
        due("7: ten may be undone", x.undo(), 9);
        due("7: week 299", x.now(0), 299);
        due("7: one more then", x.week(1), 152);
    }

    private static void promise8Quarrel() {
        RegretPit x = Check.told(THREE);
        due("8: the first one", x.quarrel(1, 0, 50), 71);
        due("8: the other one", x.man(0, 0), 60);
        due("8: the third one", x.man(2, 0), 98);
        due("8: by 1", x.quarrel(0, 2, 1), 61);
        due("8: no week", x.now(0), 0);
        int[][] bad = {{0, 0, 5}, {0, 3, 5}, {-1, 0, 5}, {0, 1, 0}, {0, 1, 51}, {0, 1, LOW}, {HIGH, 1, 1}, {1, LOW, 1}};
        for (int[] b : bad) {
            due("8: bad", x.quarrel(b[0], b[1], b[2]), BAD);
        }
        due("8: two may be undone", x.count(5), 2);
        for (int i = 0; i < 20; i++) {
            x.quarrel(1, 2, 50);
        }
        due("8: 999 at most", x.quarrel(1, 2, 50), 999);
        due("8: both", x.man(2, 0), 999);
    }

    private static void promise9Forgives() {
        RegretPit x = Check.told(THREE);
        x.week(3);
        due("9: was", x.forgives(1), 13);
        due("9: is", x.man(1, 0), 0);
        due("9: his lump stays", x.man(1, 2), 13);
        due("9: again", x.forgives(1), 0);
        due("9: each may be undone", x.count(5), 3);
        due("9: bad", x.forgives(3), BAD);
        due("9: bad below", x.forgives(-1), BAD);
        due("9: bad lowest", x.forgives(LOW), BAD);
    }

    private static void promise10Buys() {
        RegretPit x = Check.told("m99 0;m10 0;");
        due("10: none yet", x.buys(0), STATE);
        due("10: bad", x.buys(2), BAD);
        due("10: bad below", x.buys(-1), BAD);
        due("10: nothing to undo", x.count(5), 0);
        x.week(1);
        for (int i = 0; i < 19; i++) {
            x.quarrel(0, 1, 50);
        }
        due("10: above 999", x.buys(0), STATE);
        x.undo();
        due("10: sorry", x.man(0, 0), 950);
        due("10: just 999", x.buys(0), 49);
        due("10: is", x.man(0, 0), 999);
        due("10: it is gone", x.man(0, 2), 0);
        due("10: taken", x.now(1), 0);
        due("10: once", x.buys(0), STATE);
        x = Check.told(THREE);
        x.week(3);
        due("10: of two", x.buys(0), 7);
        due("10: taken of 20", x.now(1), 13);
        due("10: more sorry", x.man(0, 0), 15);
        due("10: the other lump", x.now(3), 13);
    }

    private static void promise11Undo() {
        RegretPit x = Check.told(THREE);
        due("11: none", x.undo(), STATE);
        x.week(3);
        x.quarrel(0, 1, 7);
        x.forgives(2);
        x.buys(1);
        due("11: bought", x.undo(), 3);
        due("11: lump", x.man(1, 2), 13);
        due("11: brought", x.now(1), 20);
        due("11: sorry", x.man(1, 0), 20);
        due("11: forgiven", x.undo(), 2);
        due("11: sorry again", x.man(2, 0), 107);
        due("11: quarrel", x.undo(), 1);
        due("11: sorry 0", x.man(0, 0), 8);
        due("11: sorry 1", x.man(1, 0), 13);
        due("11: week", x.undo(), 0);
        due("11: all as ahead", x.now(2), 129);
        due("11: no heap", x.now(3), 0);
        due("11: week 0", x.now(0), 0);
        due("11: nothing brought", x.now(1), 0);
        for (int i = 1; i <= 11; i++) {
            x.quarrel(0, 1, i);
        }
        for (int i = 9; i >= 0; i--) {
            due("11: ten are known", x.undo(), i);
        }
        due("11: the eleventh is lost", x.undo(), STATE);
        due("11: it stands", x.man(0, 0), 11);
        x.keep(0);
        x.lights(1, 1);
        due("11: what is no deed is not undone", x.undo(), STATE);
    }

    private static void promise12Now() {
        RegretPit x = Check.told(THREE);
        x.week(3);
        x.week(4);
        x.buys(1);
        due("12: week", x.now(0), 2);
        due("12: brought", x.now(1), 20 + 53 - 13);
        due("12: sorry", x.now(2), 10 + 26 + 54);
        due("12: heap", x.now(3), 7 + 53);
        due("12: pay", x.now(4), 28);
        for (int b : new int[] {-1, 5, LOW, HIGH}) {
            due("12: bad", x.now(b), BAD);
        }
        due("12: pay of 0", Check.told("m0 0;").now(4), 1);
        due("12: pay of 1", Check.told("m1 0;m0 0;").now(4), 1);
        due("12: pay of 2", Check.told("m0 0;m2 0;").now(4), 2);
        due("12: pay of nobody", new RegretPit().now(4), 0);
    }

    private static void promise13YieldOf() {
        RegretPit x = Check.told(THREE);
        int[] yields = {0, 0, 10, 20, 49, 49, 50, BAD, BAD};
        for (int shift = 0; shift < yields.length; shift++) {
            due("13: yieldOf(" + shift + ")", x.yieldOf(shift), yields[shift]);
        }
        for (int b : new int[] {-1, LOW, HIGH}) {
            due("13: bad", x.yieldOf(b), BAD);
        }
        due("13: nothing is changed", x.now(2), 129);
        due("13: no week", x.now(0), 0);
    }

    private static void promise14Best() {
        RegretPit x = Check.told(THREE);
        due("14: which", x.best(0), 6);
        due("14: how much", x.best(1), 50);
        for (int b : new int[] {-1, 2, LOW, HIGH}) {
            due("14: bad", x.best(b), BAD);
        }
        due("14: the least of several", Check.told("m20 0;m20 0;m20 0;c1;").best(0), 1);
        due("14: no useless man", Check.told("m0 0;m20 0;m0 0;").best(0), 2);
        due("14: all bring nothing", Check.told("m8 0;m9 0;").best(0), 0);
        due("14: no more than cage", Check.told("m20 0;m30 0;m40 0;m50 0;c3;").best(0), 14);
        due("14: six", Check.told("m20 0;m30 0;m40 0;m50 0;m60 0;m70 0;c6;").best(1), 135);
        due("14: those who ease are apart", Check.told("m20 0;m21 0;e0 1 9;s0;").best(1), 11);
    }

    private static void promise15Plan() {
        RegretPit x = Check.told("m10 0;m20 0;s0;c1;");
        int[][] plans = {
            {1, 0, 10, 2, NONE, NONE}, {2, 0, 15, 1, 2, NONE}, {2, 10, 10, 0, 2, NONE},
            {2, 11, 7, 1, 1, NONE}, {2, 21, 15, 1, 2, NONE}, {1, 11, 5, 1, NONE, NONE}, {3, 0, 20, 1, 2, 2},
            {3, 99, 20, 1, 2, 2}, {3, 20, 8, 1, 1, 1}, {3, 5, 20, 1, 2, 2},
        };
        for (int[] p : plans) {
            for (int k = -1; k < 3; k++) {
                due("15: plan(" + p[0] + ", " + p[1] + ", " + k + ")", x.plan(p[0], p[1], k), p[3 + k]);
            }
        }
        int[][] bad = {{0, 0, 0}, {4, 0, 0}, {1, -1, 0}, {1, 100, 0}, {1, 0, -2}, {1, 0, 3}, {LOW, 0, 0}, {1, HIGH, 0}, {1, 0, LOW}};
        for (int[] b : bad) {
            due("15: bad", x.plan(b[0], b[1], b[2]), BAD);
        }
        due("15: nothing is changed", x.now(2), 30);
        x.forgives(1);
        due("15: as it is now", x.plan(2, 0, -1), 7);
        x.undo();
        due("15: as it was", x.plan(2, 0, -1), 15);
        Check.types(x, "m10 0;m20 0;s6;c1;");
        x.pit();
        due("15: other shale", x.plan(2, 0, -1), 10);
        due("15: other shale, one week", x.plan(1, 0, -1), 10);
        Check.types(x, "m10 0;m20 0;s20;c1;");
        x.pit();
        due("15: still other shale, one week", x.plan(1, 0, -1), 0);
        Check.types(x, "m10 0;m20 0;s6;c1;");
        x.pit();
        x.plan(2, 0, -1);
        due("15: first by numbers", x.plan(2, 0, 0), 0);
        x.forgives(1);
        due("15: man 0 brings nothing", x.plan(1, 0, -1), 0);
        x.quarrel(0, 1, 40);
        x.forgives(1);
        due("15: man 0 alone is another", x.plan(1, 0, -1), 25);
        x = Check.told("m9 2;c1;s5;");
        due("15: grown first", x.plan(2, 0, -1), 5);
        due("15: rests first", x.plan(2, 0, 0), 0);
        due("15: then works", x.plan(2, 0, 1), 1);
        due("15: who is below now may stay so", x.plan(2, 10, -1), 5);
        due("15: who is not may not", x.plan(2, 9, -1), 0);
    }

    private static void promise16Lean() {
        RegretPit x = Check.told("m80 0;m9 9;s0;");
        due("16: 40, 20, 10", x.lean(1, 11), 3);
        due("16: 40, 20, 10, 5", x.lean(1, 10), 4);
        due("16: at once", x.lean(1, 41), 1);
        due("16: to 1", x.lean(1, 1), 8);
        due("16: nobody", x.lean(0, 1), 1);
        due("16: bad shift", x.lean(4, 1), BAD);
        due("16: bad shift below", x.lean(-1, 1), BAD);
        for (int b : new int[] {0, -1, 1000, LOW, HIGH}) {
            due("16: bad", x.lean(1, b), BAD);
        }
        due("16: 999", x.lean(3, 999), 1);
        due("16: nothing is changed", x.now(2), 89);
        x = Check.told("m50 0;m50 0;r0 1 9;s0;");
        due("16: never", x.lean(3, 16), NONE);
        due("16: 58, 38, 28, 24, 20, 20, 18", x.lean(3, 20), 7);
        x = Check.told("m99 0;m99 0;r0 1 1;s0;");
        due("16: never below 0", x.lean(3, 1), NONE);
    }

    private static void promise17Still() {
        RegretPit x = Check.told("m80 0;m9 9;s0;");
        due("17: now", x.still(1, 0, 0), 80);
        due("17: one", x.still(1, 1, 0), 40);
        due("17: four", x.still(1, 4, 0), 5);
        due("17: 60", x.still(1, 60, 0), 1);
        due("17: grows", x.still(1, 60, 1), 549);
        due("17: rests", x.still(0, 60, 0), 80);
        due("17: both", x.still(3, 2, 1), 3);
        int[][] bad = {{4, 0, 0}, {-1, 0, 0}, {1, -1, 0}, {1, 61, 0}, {1, 1, 2}, {1, 1, -1}, {HIGH, HIGH, HIGH}, {0, 0, LOW}};
        for (int[] b : bad) {
            due("17: bad", x.still(b[0], b[1], b[2]), BAD);
        }
        due("17: nothing is changed", x.now(0) + x.now(2), 89);
        for (int i = 0; i < 19; i++) {
            x.quarrel(0, 1, 50);
        }
        due("17: 999 at most", x.still(0, 60, 1), 999);
    }

    private static void promise18Temper() {
        RegretPit x = Check.told("m0 0;m0 0;m0 0;m0 0;r0 1 5;e1 2 9;r0 2 3;e0 3 1;");
        int[] tempers = {0, 0, 0, 5, 0, 3, -9, -1, 0, -1, 0, 4, 0, 2, -9, NO, NO};
        for (int shift = 0; shift < tempers.length; shift++) {
            due("18: temper(" + shift + ")", x.temper(shift), tempers[shift]);
        }
        for (int b : new int[] {-1, LOW, HIGH}) {
            due("18: bad", x.temper(b), NO);
        }
    }

    private static void matesAre(String text, int... want) {
        RegretPit x = Check.told(text);
        for (int m = -1; m < want.length - 1; m++) {
            due("19: mates(" + m + ") of " + text, x.mates(m), want[m + 1]);
        }
        for (int b : new int[] {-2, want.length - 1, LOW, HIGH}) {
            due("19: bad", x.mates(b), NO);
        }
    }

    private static void promise19Mates() {
        matesAre("", 0);
        matesAre("m0 0;", 0, NONE);
        matesAre("m0 0;m0 0;", 0, NONE, NONE);
        matesAre("m0 0;m0 0;e0 1 4;", 0, NONE, NONE);
        matesAre("m0 0;m0 0;r0 1 4;", 4, 1, 0);
        matesAre("m0 0;m0 0;m0 0;r0 1 3;r1 2 3;", 3, NONE, 2, 1);
        matesAre("m0 0;m0 0;m0 0;r0 1 3;r0 2 3;", 3, 1, 0, NONE);
        matesAre("m0 0;m0 0;m0 0;m0 0;r0 1 5;r2 3 5;r0 2 5;r1 3 5;", 10, 1, 0, 3, 2);
        matesAre("m0 0;m0 0;m0 0;m0 0;r0 1 9;r0 2 5;r1 3 5;", 10, 2, 3, 0, 1);
        matesAre("m0 0;m0 0;m0 0;m0 0;r0 1 9;e2 3 1;", 9, 1, 0, NONE, NONE);
        matesAre("m0 0;m0 0;m0 0;m0 0;m0 0;m0 0;r0 5 9;r1 4 9;r2 3 9;r0 1 8;c1;", 27, 5, 4, 3, 2, 1, 0);
    }

    private static void promise20Lights() {
        RegretPit x = Check.told(THREE);
        int[][] bad = {{0, 0}, {7, 0}, {8, 0}, {-1, 0}, {1, -1}, {1, 500}, {LOW, 0}, {1, HIGH}};
        for (int[] b : bad) {
            due("20: bad", x.lights(b[0], b[1]), BAD);
        }
        due("20: nothing", x.count(3), 0);
        for (int i = 1; i <= 6; i++) {
            due("20: lit", x.lights(i, i == 6 ? 499 : 0), i);
        }
        due("20: full", x.lights(1, 0), FULL);
        due("20: bad ahead of full", x.lights(0, 0), BAD);
        due("20: six", x.count(3), 6);
    }

    private static void promise21Forget() {
        RegretPit x = Check.told(THREE);
        due("21: nothing", x.forget(), 0);
        x.lights(1, 0);
        x.lights(1, 1);
        x.tells(1, 1);
        due("21: both", x.forget(), 3);
        due("21: lit", x.count(3), 0);
        due("21: told", x.count(4), 0);
        due("21: fit anew", x.fit(0), 100);
        due("21: whose anew", x.whose(), 7);
        due("21: no deed", x.count(5), 0);
    }

    private static void promise22Whose() {
        RegretPit x = Check.told("m20 0;m21 0;m30 0;m20 0;r0 1 5;r0 2 7;c3;s50;");
        due("22: all, if nothing is lit", x.whose(), 15);
        x.lights(11, 12);
        due("22: 25 and 26: cut 12 and 13", x.whose(), 1);
        x.lights(5, 13);
        due("22: 27: cut 13", x.whose(), 1);
        x.lights(6, 15);
        due("22: he is not in it", x.whose(), 0);
        x.forget();
        x.lights(10, 10);
        due("22: two of them, less than shale", x.whose(), 10);
        x.lights(2, 10);
        due("22: one of them", x.whose(), 2);
        x.quarrel(1, 2, 1);
        due("22: as it is now", x.whose(), 0);
        x.undo();
        due("22: as it was", x.whose(), 2);
        due("22: nobody", new RegretPit().whose(), 0);
    }

    private static void promise23Sold() {
        RegretPit x = Check.told("m20 0;m40 0;m60 0;m80 0;m20 0;c6;s1;");
        due("23: no heap", x.sold(999, 0), 0);
        due("23: nobody's", x.sold(999, 1), 0);
        x.week(15);
        int[][] sold = {{0, 0, 0}, {9, 0, 0}, {10, 10, 1}, {30, 30, 3}, {39, 30, 3}, {45, 40, 5}, {99, 90, 14}, {100, 100, 15}, {999, 100, 15}};
        for (int[] s : sold) {
            due("23: sold(" + s[0] + ", 0)", x.sold(s[0], 0), s[1]);
            due("23: sold(" + s[0] + ", 1)", x.sold(s[0], 1), s[2]);
        }
        int[][] bad = {{-1, 0}, {1000, 0}, {0, -1}, {0, 2}, {LOW, 0}, {0, HIGH}};
        for (int[] b : bad) {
            due("23: bad", x.sold(b[0], b[1]), BAD);
        }
        due("23: nothing is changed", x.now(3), 100);
    }

    private static void promise24Tells() {
        RegretPit x = new RegretPit();
        int[][] bad = {{-1, 0}, {100, 0}, {0, -1}, {0, 300}, {LOW, 0}, {0, HIGH}};
        for (int[] b : bad) {
            due("24: bad", x.tells(b[0], b[1]), BAD);
        }
        for (int i = 1; i <= 6; i++) {
            due("24: told", x.tells(i % 2 * 99, i % 2 * 299), i);
        }
        due("24: full", x.tells(0, 0), FULL);
        due("24: bad ahead of full", x.tells(0, 300), BAD);
        due("24: six", x.count(4), 6);
    }

    private static void promise25Fit() {
        RegretPit x = new RegretPit();
        due("25: all", x.fit(0), 100);
        due("25: first", x.fit(1), 0);
        due("25: next", x.fit(2), 99);
        x.tells(10, 15);
        due("25: a and b are 5", x.fit(0), 6);
        due("25: the first", x.fit(1), 5);
        due("25: next of six", x.fit(2), 0);
        x.tells(0, 3);
        due("25: one", x.fit(0), 1);
        due("25: a 2, b 3", x.fit(1), 23);
        due("25: next of one", x.fit(2), 0);
        x.tells(99, 121);
        due("25: 99 and 19 and 3", x.fit(1), 23);
        x.tells(99, 122);
        due("25: none", x.fit(0), 0);
        due("25: no first", x.fit(1), NONE);
        due("25: no next", x.fit(2), NONE);
        for (int b : new int[] {-1, 3, LOW, HIGH}) {
            due("25: bad", x.fit(b), BAD);
        }
        x.forget();
        x.tells(9, 9);
        due("25: 0 and 1 by 9, cut, are 0", x.fit(0), 2);
        due("25: next of two", x.fit(2), 10);
        x.forget();
        x.tells(99, 197);
        due("25: the greatest", x.fit(1), 99);
        x.forget();
        x.tells(0, 10);
        due("25: beyond", x.fit(0), 0);
    }

    private static void belowIs(RegretPit x, int by, int n, int upper, int lower) {
        due("26: below(" + by + ", " + n + ", 0)", x.below(by, n, 0), upper);
        due("26: below(" + by + ", " + n + ", 1)", x.below(by, n, 1), lower);
    }

    private static void promise26Below() {
        RegretPit x = Check.told("m99 0;m26 9;");
        belowIs(x, 0, 4, 125, 1);
        belowIs(x, 10, 1, 0, 1);
        belowIs(x, 10, 0, 125, 1);
        belowIs(x, 5, 0, 125, 1);
        belowIs(x, 5, 1, 125, 2);
        belowIs(x, 5, 4, 125, 16);
        belowIs(x, 1, 2, 405, 4);
        belowIs(x, 7, 4, 81, 80);
        belowIs(Check.told("m1 0;"), 7, 4, 81, 10000);
        belowIs(Check.told("m0 0;"), 7, 4, 0, 1);
        int[][] bad = {{-1, 0, 0}, {11, 0, 0}, {0, -1, 0}, {0, 5, 0}, {0, 0, -1}, {0, 0, 2}, {LOW, 0, 0}, {0, HIGH, 0}, {0, 0, HIGH}};
        for (int[] b : bad) {
            due("26: bad", x.below(b[0], b[1], b[2]), BAD);
        }
        x = Check.told("m99 9;m99 9;m99 9;m99 9;m99 9;m99 9;");
        for (int i = 0; i < 100; i++) {
            x.week(0);
        }
        belowIs(x, 1, 4, 19663317, 5000);
    }

    private static void promise27Mark() {
        RegretPit x = Check.told(THREE);
        x.week(3);
        x.week(2);
        int[][] marks = {{5, 7, -2, 14, 3, 7}, {3, 3, -3, 6, -7, 5}, {58, 67, 58, 134, 49, 60}};
        for (int m = 0; m < 3; m++) {
            for (int kind = 0; kind < 6; kind++) {
                due("27: mark(" + kind + ", " + m + ")", x.mark(kind, m), marks[m][kind]);
            }
        }
        long trace = x.trace();
        int[][] bad = {{-1, 0}, {6, 0}, {0, -1}, {0, 3}, {LOW, 0}, {0, HIGH}};
        for (int[] b : bad) {
            due("27: bad", x.mark(b[0], b[1]), NO);
        }
        due("27: bad leaves no trace", x.trace(), trace);
    }

    private static void promise28Keep() {
        RegretPit x = Check.told(THREE);
        due("28: week 0", x.keep(0), 0);
        x.week(3);
        due("28: week 1", x.keep(1), 1);
        x.week(0);
        due("28: anew", x.keep(1), 2);
        for (int b : new int[] {-1, 2, LOW, HIGH}) {
            due("28: bad", x.keep(b), BAD);
        }
        due("28: is no deed", x.count(5), 2);
        due("28: the other one stays", x.back(0), 0);
        due("28: the later one", x.back(1), 2);
    }

    private static void promise29Back() {
        RegretPit x = Check.told(THREE);
        due("29: none", x.back(0), STATE);
        for (int b : new int[] {-1, 2, LOW, HIGH}) {
            due("29: bad", x.back(b), BAD);
        }
        x.week(3);
        x.quarrel(0, 1, 10);
        x.keep(0);
        x.lights(1, 1);
        x.tells(1, 1);
        x.type('m');
        x.buys(0);
        x.forgives(2);
        x.undo();
        x.undo();
        x.undo();
        x.undo();
        x.quarrel(1, 2, 3);
        x.week(4);
        due("29: week", x.back(0), 1);
        due("29: sorry 0", x.man(0, 0), 18);
        due("29: sorry 2", x.man(2, 0), 107);
        due("29: heap", x.now(3), 20);
        due("29: brought", x.now(1), 20);
        due("29: nothing else: lit", x.count(3), 1);
        due("29: nothing else: told", x.count(4), 1);
        due("29: nothing else: text", x.count(6), 1);
        due("29: what may be undone", x.undo(), 1);
        due("29: the quarrel is undone", x.man(0, 0), 8);
        due("29: the week, too", x.undo(), 0);
        due("29: week 0", x.now(0), 0);
        due("29: the image stays", x.back(0), 1);
        due("29: the other one was not kept", x.back(1), STATE);
        due("29: no deed", x.count(5), 2);
    }

    private static void promise30Count() {
        RegretPit x = Check.told(THREE);
        x.lights(1, 1);
        x.tells(1, 1);
        x.tells(2, 2);
        x.week(0);
        x.week(0);
        x.week(0);
        for (int i = 0; i < 4; i++) {
            x.type('x');
        }
        int[] counts = {3, 2, 6, 1, 2, 3, 4};
        for (int i = 0; i < counts.length; i++) {
            due("30: count(" + i + ")", x.count(i), counts[i]);
        }
        for (int b : new int[] {-1, 7, LOW, HIGH}) {
            due("30: bad", x.count(b), BAD);
        }
    }

    private static void promise31Trace() {
        RegretPit x = Check.told(THREE);
        int[] steps = {1, 11, 101, 1011, 10101, 100001};
        long sum = 0;
        for (int kind = 0; kind < 6; kind++) {
            for (int again = 0; again < 2; again++) {
                x.mark(kind, again);
                sum += steps[kind];
                due("31: behind kind " + kind, x.trace(), sum);
            }
        }
        x.week(0);
        x.keep(0);
        x.undo();
        x.back(0);
        x.forget();
        due("31: nothing else comes to it", x.trace(), sum);
    }
}
