/** The edges of what is done: the document's part 2, promises 5 to 12. */
public final class DeedEdgesTest {
    private static final int BAD = -1, STATE = -2;
    private static final int LOW = Integer.MIN_VALUE, HIGH = Integer.MAX_VALUE;
    private static final Check check = new Check("DeedEdgesTest");

    public static void main(String[] args) {
        asManyAsCage();
        nobodyToo();
        bitsOfNobody();
        notBelow0();
        notAbove999();
        addedTogetherFirst();
        onlyOthersOfTheShift();
        halfIsCut();
        lessThanShale();
        noShale();
        growsTo999();
        broughtIsAddedUp();
        week300();
        heapHasTheLatest();
        quarrelFrom1To50();
        quarrelTo999();
        quarrelOfUnlikeMen();
        forgivenIsNotSorry();
        boughtBack();
        boughtUpTo999();
        tenAreKnown();
        onlyDeedsAreUndone();
        undoneThenDone();
        undoneOfSix();
        payOfAll();
        menAndTheirNumbers();
        check.ends();
    }

    private static void sorryAre(String what, RegretPit x, int... sorry) {
        for (int m = 0; m < sorry.length; m++) {
            check.due(what + ": man " + m, x.man(m, 0), sorry[m]);
        }
    }

    private static void heapIs(String what, RegretPit x, int... lumps) {
        for (int m = 0; m < lumps.length; m++) {
            check.due(what + ": lump of " + m, x.man(m, 2), lumps[m]);
        }
    }

    private static void asManyAsCage() {
        check.says("A SHIFT: MEN (bits; as many as CAGE at most)");
        for (int cage = 1; cage <= 6; cage++) {
            RegretPit x = Check.told("m0 0;m0 0;m0 0;m0 0;c" + cage + ";");
            for (int shift = 0; shift < 16; shift++) {
                int due = Integer.bitCount(shift) <= cage ? 0 : BAD;
                check.due("cage " + cage + ", week(" + shift + ")", x.week(shift), due);
                check.due("cage " + cage + ", yieldOf(" + shift + ")", x.yieldOf(shift), due);
            }
        }
    }

    private static void nobodyToo() {
        check.says("A SHIFT: nobody too");
        RegretPit x = Check.told("m50 3;m60 9;");
        check.due("a week", x.week(0), 0);
        sorryAre("all rest", x, 53, 69);
        check.due("the week", x.now(0), 1);
        x = new RegretPit();
        check.due("nobody at all", x.week(0), 0);
        check.due("a week of nobody", x.now(0), 1);
        check.due("may be undone", x.undo(), 0);
    }

    private static void bitsOfNobody() {
        check.says("BAD (not a SHIFT)");
        RegretPit x = Check.told("m50 3;m60 9;c6;");
        for (int bad : new int[] {4, 5, 8, 64, -1, -4, LOW, LOW + 1, HIGH, 1 << 30, 256, 1 << 16 | 1}) {
            check.due("week(" + bad + ")", x.week(bad), BAD);
            check.due("yieldOf(" + bad + ")", x.yieldOf(bad), BAD);
        }
        sorryAre("nothing changed", x, 50, 60);
        check.due("no week", x.now(0), 0);
        check.due("nothing to undo", x.count(5), 0);
        check.due("nobody, week(1)", new RegretPit().week(1), BAD);
        x = Check.told("m0 0;".repeat(6) + "c6;");
        check.due("all six", x.week(63), 0);
        check.due("beyond six", x.week(64), BAD);
    }

    private static void notBelow0() {
        check.says("(0 .. 999: it stays there), 0");
        RegretPit x = Check.told("m9 0;m8 0;e0 1 9;s0;");
        check.due("9 less 9, 8 less 9", x.week(3), 0);
        sorryAre("both", x, 0, 0);
        x = Check.told("m10 0;m0 0;e0 1 9;s0;");
        check.due("10 less 9", x.week(3), 0);
        sorryAre("1 is left", x, 1, 0);
    }

    private static void notAbove999() {
        check.says("(0 .. 999: it stays there), 999");
        RegretPit x = Check.told("m99 0;m90 0;r0 1 9;s0;");
        Check.quarrels(x, 0, 1, 18);
        sorryAre("ahead", x, 999, 990);
        check.due("999 cut to 499 each", x.week(3), 998);
        sorryAre("behind", x, 500, 500);
        heapIs("of 999", x, 499, 499);
        x = Check.told("m99 0;m89 0;r0 1 9;s0;");
        Check.quarrels(x, 0, 1, 18);
        check.due("999, and 989 + 9 = 998", x.week(3), 499 + 499);
        sorryAre("998 leaves one less", x, 500, 499);
    }

    private static void addedTogetherFirst() {
        check.says("as SORRY as by all BESIDE of him and the others of it, added to it");
        RegretPit x = Check.told("m3 0;m0 0;m0 0;e0 1 9;r0 2 9;s0;");
        check.due("3, 0, 9", x.week(7), 1 + 0 + 4);
        sorryAre("near 0", x, 2, 0, 5);
        x = Check.told("m95 0;m0 0;m0 0;r0 1 9;e0 2 9;s0;");
        Check.quarrels(x, 0, 1, 18);
        x.forgives(1);
        check.due("995, 9, 0", x.week(7), 497 + 4 + 0);
        sorryAre("near 999", x, 498, 5, 0);
        x = Check.told("m20 0;".repeat(6) + "r0 1 9;r0 2 9;r0 3 9;r0 4 9;r0 5 9;c6;s0;");
        check.due("five remind", x.week(63), 32 + 5 * 14);
    }

    private static void onlyOthersOfTheShift() {
        check.says("of him and the others of it");
        RegretPit x = Check.told("m20 1;m20 1;m20 1;r0 1 9;e0 2 9;s0;");
        check.due("alone", x.week(1), 10);
        sorryAre("alone", x, 10, 21, 21);
        x.undo();
        check.due("with 2", x.week(5), 5 + 5);
        sorryAre("with 2", x, 6, 21, 6);
        x.undo();
        check.due("those apart", x.week(6), 20);
    }

    private static void halfIsCut() {
        check.says("he CUTS half of what he is SORRY (cut)");
        int[] cut = {0, 0, 1, 1, 2, 2};
        for (int sorry = 0; sorry < cut.length; sorry++) {
            RegretPit x = Check.told("m" + sorry + " 9;s0;");
            check.due("half of " + sorry, x.week(1), cut[sorry]);
            check.due("left of " + sorry, x.man(0, 0), sorry - cut[sorry]);
        }
    }

    private static void lessThanShale() {
        check.says("a LUMP of less than SHALE brings nothing");
        int[][] all = {{12, 6, 6}, {13, 6, 6}, {11, 6, 0}, {14, 6, 7}, {99, 50, 0}, {99, 49, 49}, {10, 5, 5}, {9, 5, 0}, {2, 1, 1}, {1, 1, 0}};
        for (int[] a : all) {
            RegretPit x = Check.told("m" + a[0] + " 0;s" + a[1] + ";");
            check.due("sorry " + a[0] + ", shale " + a[1], x.week(1), a[2]);
            check.due("is cut all the same", x.man(0, 0), a[0] - a[0] / 2);
            check.due("in the heap", x.man(0, 2), a[2]);
            check.due("brought", x.now(1), a[2]);
        }
        RegretPit x = Check.told("m99 0;m0 0;s50;");
        x.quarrel(0, 1, 1);
        check.due("100, shale 50", x.week(1), 50);
    }

    private static void noShale() {
        check.says("SHALE 0; HEAP: LUMPS that brought coins (1 at least)");
        RegretPit x = Check.told("m1 0;m2 0;m0 0;s0;");
        check.due("0 and 1 and 0", x.week(7), 1);
        heapIs("1 at least", x, 0, 1, 0);
        check.due("none to buy", x.buys(0), STATE);
        check.due("one to buy", x.buys(1), 1);
    }

    private static void growsTo999() {
        check.says("SORRY by what he GROWS more (999 at most)");
        RegretPit x = Check.told("m90 9;m91 9;m89 9;m0 0;");
        Check.quarrels(x, 0, 1, 18);
        Check.quarrels(x, 2, 3, 18);
        x.week(0);
        sorryAre("990, 991, 989, 900", x, 999, 999, 998, 900);
        x.week(0);
        sorryAre("and stay", x, 999, 999, 999, 900);
    }

    private static void broughtIsAddedUp() {
        // 300 weeks of six lumps of 499 are 898200: 999999 itself is out of reach
        check.says("What was brought is added up (999999 at most)");
        RegretPit x = Check.told(manyReminders());
        int sorry = 99;
        int sum = 0;
        for (int i = 0; i < 300; i++) {
            int cut = (sorry + 45) / 2;
            sorry += 45 - cut;
            sum += 6 * cut;
            check.due("week " + i, x.week(63), 6 * cut);
        }
        check.due("in all", x.now(1), sum);
        check.due("sorry in all", x.now(2), 6 * sorry);
        check.due("heap", x.now(3), 6 * 45);
    }

    private static String manyReminders() {
        StringBuilder text = new StringBuilder("m99 9;".repeat(6));
        for (int a = 0; a < 6; a++) {
            for (int b = a + 1; b < 6; b++) {
                text.append("r").append(a).append(' ').append(b).append(" 9;");
            }
        }
        return text.append("c6;s0;").toString();
    }

    private static void week300() {
        check.says("THE WEEK is one more (0 at first, 300 at most); STATE: it is WEEK 300");
        RegretPit x = Check.told("m9 1;c1;");
        check.due("at first", x.now(0), 0);
        for (int i = 1; i <= 300; i++) {
            check.due("week " + i, x.week(0), 0);
        }
        check.due("the last", x.now(0), 300);
        check.due("one more", x.week(0), STATE);
        check.due("one that works", x.week(1), STATE);
        check.due("BAD is ahead of STATE", x.week(2), BAD);
        check.due("BAD is ahead of STATE, below", x.week(-1), BAD);
        check.due("nothing changed", x.man(0, 0), 309);
        check.due("the last still", x.now(0), 300);
        check.due("other deeds go on", x.forgives(0), 309);
        x.undo();
        check.due("undone", x.undo(), 8);
        check.due("299", x.now(0), 299);
        check.due("another last week", x.week(1), 154);
        check.due("the end", x.week(1), STATE);
        check.due("kept", x.keep(0), 300);
        check.due("back there", x.back(0), 300);
        check.due("still the end", x.week(0), STATE);
        check.due("looks go beyond it", x.still(0, 60, 0), 154 + 60);
        check.due("a plan, too", x.plan(3, 0, -1), 77 + 38 + 19);
        Check.types(x, "m1 1;");
        x.pit();
        check.due("anew", x.week(0), 0);
        check.due("week 1", x.now(0), 1);
    }

    private static void heapHasTheLatest() {
        check.says("HEAP: the latest of each MAN (its coins; 0: none)");
        RegretPit x = Check.told("m40 0;m16 0;s5;");
        heapIs("at first", x, 0, 0);
        x.week(3);
        heapIs("20 and 8", x, 20, 8);
        x.week(1);
        heapIs("10 and 8", x, 10, 8);
        x.week(2);
        heapIs("4 is less than shale: 8 stays", x, 10, 8);
        check.due("worth", x.now(3), 18);
        check.due("brought", x.now(1), 38);
        x.week(1);
        heapIs("5 is shale", x, 5, 8);
    }

    private static void quarrelFrom1To50() {
        check.says("both are n (1 .. 50) more SORRY");
        RegretPit x = Check.told("m10 0;m20 0;m30 0;");
        for (int bad : new int[] {0, -1, 51, LOW, HIGH}) {
            check.due("quarrel by " + bad, x.quarrel(0, 1, bad), BAD);
        }
        check.due("nothing to undo", x.count(5), 0);
        check.due("by 1", x.quarrel(0, 1, 1), 11);
        check.due("by 50, the first one", x.quarrel(1, 0, 50), 71);
        sorryAre("both", x, 61, 71, 30);
    }

    private static void quarrelTo999() {
        check.says("QUARREL (999 at most)");
        RegretPit x = Check.told("m99 0;m98 0;m0 0;");
        Check.quarrels(x, 0, 1, 18);
        sorryAre("just", x, 999, 998, 0);
        check.due("one at 999", x.quarrel(0, 1, 1), 999);
        sorryAre("both", x, 999, 999, 0);
        check.due("both at 999", x.quarrel(1, 0, 50), 999);
        check.due("the other one is below", x.quarrel(2, 0, 50), 50);
        sorryAre("each for himself", x, 999, 999, 50);
        x.undo();
        check.due("a quarrel that changed nothing may be undone", x.undo(), 8);
        sorryAre("as ahead", x, 999, 999, 0);
        x.undo();
        sorryAre("as ahead of that", x, 999, 998, 0);
    }

    private static void quarrelOfUnlikeMen() {
        check.says("QUARREL of two unlike MEN: BAD (alike ones, too)");
        RegretPit x = Check.told("m10 0;m20 0;");
        int[][] bad = {{0, 0}, {1, 1}, {0, 2}, {2, 0}, {0, -1}, {-1, 0}, {2, 2}, {32, 1}, {0, 33}, {LOW, HIGH}, {HIGH, LOW}};
        for (int[] b : bad) {
            check.due("quarrel(" + b[0] + ", " + b[1] + ")", x.quarrel(b[0], b[1], 5), BAD);
        }
        sorryAre("nothing changed", x, 10, 20);
        check.due("nobody", new RegretPit().quarrel(0, 1, 5), BAD);
        check.due("one man", Check.told("m1 1;").quarrel(0, 1, 5), BAD);
    }

    private static void forgivenIsNotSorry() {
        check.says("FORGIVEN: a MAN is not SORRY");
        RegretPit x = Check.told("m99 3;m0 4;");
        check.due("who was not", x.forgives(1), 0);
        check.due("may be undone all the same", x.count(5), 1);
        check.due("who was", x.forgives(0), 99);
        sorryAre("none is", x, 0, 0);
        x.week(0);
        sorryAre("but grows", x, 3, 4);
        for (int bad : new int[] {-1, 2, 32, LOW, HIGH}) {
            check.due("forgives(" + bad + ")", x.forgives(bad), BAD);
        }
        check.due("nobody", new RegretPit().forgives(0), BAD);
    }

    private static void boughtBack() {
        check.says("BOUGHT: he is so much more SORRY, it is gone; its coins are taken; STATE: there is none");
        RegretPit x = Check.told("m40 0;m20 0;");
        check.due("none yet", x.buys(0), STATE);
        x.week(3);
        x.week(1);
        check.due("the latest alone", x.buys(0), 10);
        sorryAre("again his", x, 20, 10);
        check.due("brought", x.now(1), 20 + 10);
        heapIs("gone", x, 0, 10);
        check.due("the older one is not there", x.buys(0), STATE);
        for (int bad : new int[] {-1, 2, 32, LOW, HIGH}) {
            check.due("buys(" + bad + ")", x.buys(bad), BAD);
        }
        check.due("three deeds", x.count(5), 3);
        check.due("the other", x.buys(1), 10);
        check.due("what is left of it", x.now(1), 20);
        check.due("nobody", new RegretPit().buys(0), BAD);
    }

    private static void boughtUpTo999() {
        check.says("STATE: he would be above 999");
        RegretPit x = Check.told("m99 0;m0 0;m0 0;");
        x.week(1);
        Check.quarrels(x, 0, 1, 18);
        check.due("950 and 49", x.man(0, 0), 950);
        check.due("999 is not above", x.buys(0), 49);
        check.due("999", x.man(0, 0), 999);
        x.undo();
        x.quarrel(0, 2, 1);
        check.due("951 and 49", x.buys(0), STATE);
        check.due("the lump stays", x.man(0, 2), 49);
        check.due("brought stays", x.now(1), 49);
        check.due("sorry stays", x.man(0, 0), 951);
        check.due("ten deeds, none more", x.count(5), 10);
    }

    private static void tenAreKnown() {
        check.says("UNDONE: (10 are known, older ones are lost); STATE: none");
        RegretPit x = Check.told("m10 1;m10 1;");
        check.due("none", x.undo(), STATE);
        for (int i = 1; i <= 10; i++) {
            x.quarrel(0, 1, 1);
            check.due("known", x.count(5), i);
        }
        for (int i = 9; i >= 0; i--) {
            check.due("undone", x.undo(), i);
            check.due("as ahead", x.man(0, 0), 10 + i);
        }
        check.due("none again", x.undo(), STATE);
        for (int i = 1; i <= 25; i++) {
            x.week(0);
            check.due("ten at most", x.count(5), Math.min(i, 10));
        }
        for (int i = 9; i >= 0; i--) {
            check.due("undone of 25", x.undo(), i);
            check.due("the week", x.now(0), 15 + i);
            check.due("sorry", x.man(1, 0), 25 + i);
        }
        check.due("older ones are lost", x.undo(), STATE);
        check.due("and stand", x.now(0), 15);
    }

    private static void onlyDeedsAreUndone() {
        check.says("UNDONE: the latest WEEK, QUARREL, FORGIVEN, BOUGHT: all is as ahead of it");
        RegretPit x = Check.told("m40 0;m30 5;s4;");
        x.week(1);
        x.week(9);
        x.quarrel(0, 1, 0);
        x.forgives(2);
        x.buys(1);
        x.keep(0);
        x.lights(1, 3);
        x.tells(4, 5);
        x.mark(3, 0);
        x.type('m');
        x.plan(2, 0, -1);
        check.due("one deed", x.count(5), 1);
        check.due("undone", x.undo(), 0);
        sorryAre("as ahead", x, 40, 30);
        heapIs("as ahead", x, 0, 0);
        check.due("brought", x.now(1), 0);
        check.due("week", x.now(0), 0);
        check.due("lit stays", x.count(3), 1);
        check.due("told stays", x.count(4), 1);
        check.due("the text stays", x.count(6), 1);
        check.due("the trace stays", x.trace(), 1011);
        check.due("the image stays", x.back(0), 1);
    }

    private static void undoneThenDone() {
        check.says("UNDONE: how many more may be");
        RegretPit x = Check.told("m40 0;m30 5;s4;");
        x.week(3);
        x.forgives(0);
        x.buys(0);
        check.due("bought", x.man(0, 0), 20);
        check.due("two more", x.undo(), 2);
        x.quarrel(0, 1, 7);
        check.due("another in its stead", x.undo(), 2);
        sorryAre("forgiven", x, 0, 15);
        check.due("one more", x.undo(), 1);
        sorryAre("not forgiven", x, 20, 15);
        heapIs("of the week", x, 20, 15);
        check.due("no more", x.undo(), 0);
        sorryAre("at first", x, 40, 30);
        heapIs("no heap", x, 0, 0);
        check.due("none", x.undo(), STATE);
    }

    private static void undoneOfSix() {
        check.says("UNDONE: all is as ahead of it, of six MEN");
        RegretPit x = Check.told("m99 9;m88 8;m77 7;m66 6;m55 5;m44 4;c6;s0;");
        x.week(63);
        x.keep(0);
        x.week(48);
        x.buys(5);
        x.buys(0);
        check.due("bought, bought", x.undo(), 3);
        x.undo();
        check.due("the second week", x.undo(), 1);
        sorryAre("behind the first week", x, 50, 44, 39, 33, 28, 22);
        heapIs("of the first week", x, 49, 44, 38, 33, 27, 22);
        check.due("brought", x.now(1), 213);
        check.due("week", x.now(0), 1);
        check.due("the first week", x.undo(), 0);
        sorryAre("at first", x, 99, 88, 77, 66, 55, 44);
        heapIs("none", x, 0, 0, 0, 0, 0, 0);
        check.due("the image", x.back(0), 1);
        sorryAre("as kept", x, 50, 44, 39, 33, 28, 22);
        heapIs("as kept", x, 49, 44, 38, 33, 27, 22);
    }

    private static void payOfAll() {
        check.says("PAY: more than half of what each is SORRY (cut); 0: nobody");
        check.due("nobody", new RegretPit().now(4), 0);
        int[] pays = {1, 1, 2, 2, 3};
        for (int sorry = 0; sorry < pays.length; sorry++) {
            check.due("sorry " + sorry, Check.told("m" + sorry + " 0;").now(4), pays[sorry]);
        }
        RegretPit x = Check.told("m99 0;m4 0;m98 0;");
        check.due("of the most sorry", x.now(4), 50);
        Check.quarrels(x, 0, 1, 19);
        check.due("of 999", x.now(4), 500);
        x.forgives(0);
        x.forgives(1);
        x.forgives(2);
        check.due("all forgiven", x.now(4), 1);
    }

    private static void menAndTheirNumbers() {
        check.says("man, now: BAD (a number is not as told, or there is no such thing)");
        RegretPit x = Check.told("m40 3;m30 5;");
        for (int bad : new int[] {-1, 2, 6, 32, LOW, HIGH}) {
            check.due("man(" + bad + ", 0)", x.man(bad, 0), BAD);
        }
        for (int bad : new int[] {-1, 3, LOW, HIGH}) {
            check.due("man(0, " + bad + ")", x.man(0, bad), BAD);
        }
        for (int bad : new int[] {-1, 5, LOW, HIGH}) {
            check.due("now(" + bad + ")", x.now(bad), BAD);
        }
        check.due("the last man", x.man(1, 2), 0);
        check.due("the last number", x.now(4), 21);
    }
}
