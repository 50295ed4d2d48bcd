/** The edges of what is looked at ahead, lit, told and reckoned: the document's part 3, promises 13 to 26. */
public final class LookEdgesTest {
    private static final int BAD = -1, FULL = -3, NONE = -9, NO = -1000000;
    private static final int LOW = Integer.MIN_VALUE, HIGH = Integer.MAX_VALUE;
    private static final Check check = new Check("LookEdgesTest");

    public static void main(String[] args) {
        nothingIsChanged();
        bestOfSeveral();
        bestOfNothing();
        planWeeksFrom1To3();
        planLeastFrom0To99();
        planShiftsBeyond();
        planHoldsAtTheEnd();
        planHoldsAtEachEnd();
        planFreesWhoWasBelow();
        planOfSeveral();
        planOfNobody();
        leanFrom1To999();
        leanWeeks();
        stillFrom0To60();
        stillMen();
        matesOfSeveral();
        matesEachOnce();
        matesNumbers();
        temperOfTwos();
        litSixAtMost();
        litFrom0To499();
        whoseInEachOfThem();
        whoseOfNothingLit();
        soldFrom0To999();
        soldOfSeveral();
        toldSixAtMost();
        toldBounds();
        fitOfAll();
        fitOfNone();
        nextOfSeveral();
        belowBounds();
        belowInLeastTerms();
        forgetsBoth();
        check.ends();
    }

    private static void planIs(RegretPit x, int n, int v, int... want) {
        for (int k = -1; k < want.length - 1; k++) {
            check.due("plan(" + n + ", " + v + ", " + k + ")", x.plan(n, v, k), want[k + 1]);
        }
    }

    private static void nothingIsChanged() {
        check.says("(Nothing is changed.)");
        RegretPit x = Check.told("m40 3;m30 5;r0 1 4;s4;");
        x.week(1);
        x.lights(1, 2);
        x.tells(1, 2);
        x.yieldOf(3);
        x.best(0);
        x.plan(3, 0, -1);
        x.lean(3, 1);
        x.still(3, 60, 1);
        x.mates(-1);
        x.temper(3);
        x.whose();
        x.sold(999, 1);
        x.fit(2);
        x.below(5, 4, 0);
        int[] nows = {1, 20, 20 + 35, 20, 18};
        for (int i = 0; i < nows.length; i++) {
            check.due("now(" + i + ")", x.now(i), nows[i]);
        }
        int[] counts = {2, 3, 4, 1, 1, 1, 0};
        for (int i = 0; i < counts.length; i++) {
            check.due("count(" + i + ")", x.count(i), counts[i]);
        }
        check.due("trace", x.trace(), 0);
    }

    private static void bestOfSeveral() {
        check.says("BEST: of several the least number (bits)");
        check.due("three alike, one works", Check.told("m20 0;m20 0;m20 0;c1;").best(0), 1);
        check.due("three alike, two work", Check.told("m20 0;m20 0;m20 0;c2;").best(0), 3);
        check.due("who brings nothing stays", Check.told("m0 0;m20 0;m9 0;m20 0;").best(0), 10);
        check.due("with or without is alike", Check.told("m20 0;m11 0;e0 1 2;").best(0), 1);
        check.due("all six", Check.told("m20 0;".repeat(6) + "c6;").best(0), 63);
        check.due("the least three of six", Check.told("m20 0;".repeat(6)).best(0), 7);
        RegretPit x = Check.told("m20 0;m20 0;");
        for (int bad : new int[] {-1, 2, LOW, HIGH}) {
            check.due("best(" + bad + ")", x.best(bad), BAD);
        }
    }

    private static void bestOfNothing() {
        check.says("BEST of all SHIFTS, if none brings a coin");
        RegretPit x = Check.told("m9 0;m8 0;");
        check.due("nobody", x.best(0), 0);
        check.due("nothing", x.best(1), 0);
        check.due("no men", new RegretPit().best(0), 0);
        check.due("no men, nothing", new RegretPit().best(1), 0);
        check.due("just shale", Check.told("m9 0;m10 0;").best(0), 2);
    }

    private static void planWeeksFrom1To3() {
        check.says("PLAN of n (1 .. 3) WEEKS");
        RegretPit x = Check.told("m80 0;s0;");
        planIs(x, 1, 0, 40, 1, NONE, NONE);
        planIs(x, 2, 0, 60, 1, 1, NONE);
        planIs(x, 3, 0, 70, 1, 1, 1);
        for (int bad : new int[] {0, -1, 4, LOW, HIGH}) {
            check.due("plan of " + bad, x.plan(bad, 0, -1), BAD);
        }
    }

    private static void planLeastFrom0To99() {
        check.says("PLAN: v (0 .. 99)");
        RegretPit x = Check.told("m99 0;s0;");
        for (int bad : new int[] {-1, 100, LOW, HIGH}) {
            check.due("v is " + bad, x.plan(1, bad, -1), BAD);
        }
        planIs(x, 1, 0, 49, 1);
        planIs(x, 1, 99, 0, 0);
        planIs(Check.told("m98 0;s0;"), 1, 99, 49, 1);
    }

    private static void planShiftsBeyond() {
        check.says("PLAN: the SHIFT of the k-th WEEK (0, 1, 2); NONE (beyond n); BAD");
        RegretPit x = Check.told("m80 0;s0;");
        for (int n = 1; n <= 3; n++) {
            for (int k = 0; k <= 2; k++) {
                check.due("plan(" + n + ", 0, " + k + ")", x.plan(n, 0, k), k < n ? 1 : NONE);
            }
            for (int bad : new int[] {-2, 3, NONE, LOW, HIGH}) {
                check.due("plan(" + n + ", 0, " + bad + ")", x.plan(n, 0, bad), BAD);
            }
        }
        check.due("BAD, not NONE", x.plan(1, 100, 2), BAD);
        check.due("BAD n, not NONE", x.plan(0, 0, 2), BAD);
    }

    private static void planHoldsAtTheEnd() {
        check.says("no MAN is SORRY less than v at the end");
        RegretPit x = Check.told("m80 0;m41 0;s0;c2;");
        planIs(x, 1, 40, 40, 1);
        planIs(x, 1, 41, 0, 0);
        planIs(x, 1, 21, 60, 3);
        planIs(x, 1, 22, 40, 1);
        planIs(x, 1, 42, 20, 2);
        planIs(x, 1, 80, 20, 2);
        planIs(x, 1, 81, 60, 3);
    }

    private static void planHoldsAtEachEnd() {
        check.says("at the end of any of them");
        // to work, then to rest leaves him at 22 / 2 + 9 = 20 again, but he is at 11 in between
        RegretPit x = Check.told("m20 9;m0 0;c1;s0;");
        x.quarrel(0, 1, 2);
        x.forgives(1);
        planIs(x, 2, 20, 0, 0, 0, NONE);
        planIs(x, 2, 17, 0, 0, 0, NONE);
        planIs(x, 2, 16, 15, 0, 1, NONE);
        planIs(x, 2, 11, 15, 0, 1, NONE);
        planIs(x, 2, 6, 16, 1, 1, NONE);
        planIs(x, 3, 11, 20, 0, 0, 1);
        planIs(x, 3, 10, 11 + 10, 1, 0, 1);
        planIs(x, 3, 9, 11 + 10, 1, 0, 1);
        planIs(x, 3, 8, 15 + 8, 0, 1, 1);
    }

    private static void planFreesWhoWasBelow() {
        check.says("who was not ahead of the first one");
        RegretPit x = Check.told("m30 9;c1;s0;");
        planIs(x, 1, 30, 0, 0);
        planIs(x, 1, 31, 15, 1);
        // by resting he comes to 39, but he was below 31 ahead of the first week: he stays free
        planIs(x, 2, 31, 22, 1, 1, NONE);
        planIs(x, 2, 30, 0, 0, 0, NONE);
    }

    private static void planOfSeveral() {
        check.says("PLAN: of several the first (by numbers)");
        RegretPit x = Check.told("m20 0;m20 0;c1;s0;");
        planIs(x, 1, 0, 10, 1, NONE, NONE);
        planIs(x, 2, 0, 20, 1, 2, NONE);
        planIs(x, 3, 0, 25, 1, 1, 2);
        x = Check.told("m9 0;");
        planIs(x, 3, 0, 0, 0, 0, 0);
        x = Check.told("m10 0;s5;c1;");
        planIs(x, 3, 0, 5, 0, 0, 1);
    }

    private static void planOfNobody() {
        check.says("PLAN, nobody there");
        planIs(new RegretPit(), 3, 99, 0, 0, 0, 0);
        planIs(new RegretPit(), 1, 0, 0, 0, NONE, NONE);
    }

    private static void leanFrom1To999() {
        check.says("LEAN: v (1 .. 999)");
        RegretPit x = Check.told("m80 0;s0;");
        for (int bad : new int[] {0, -1, 1000, LOW, HIGH}) {
            check.due("v is " + bad, x.lean(1, bad), BAD);
        }
        check.due("999", x.lean(1, 999), 1);
        check.due("1", x.lean(1, 1), 8);
        for (int bad : new int[] {2, -1, 64, LOW, HIGH}) {
            check.due("shift " + bad, x.lean(bad, 1), BAD);
        }
        x = Check.told("m99 0;".repeat(6) + "c6;s0;");
        for (int i = 0; i < 18; i++) {
            x.quarrel(0, 1, 50);
            x.quarrel(2, 3, 50);
        }
        check.due("1996 and 98, then half of it", x.lean(63, 999), 3);
    }

    private static void leanWeeks() {
        // a shift's yield settles in a dozen weeks: whether 60 or 70 are looked at can't be seen
        check.says("the first WEEK (1 .. 60 from now) that brings less; NONE");
        RegretPit x = Check.told("m80 0;s0;");
        check.due("40 is less than 41", x.lean(1, 41), 1);
        check.due("40 is not less than 40", x.lean(1, 40), 2);
        check.due("20 is not less than 20", x.lean(1, 20), 3);
        check.due("nobody brings nothing", x.lean(0, 1), 1);
        x = Check.told("m99 0;m99 0;r0 1 8;s0;");
        check.due("106, 62, 38, 28, 22, 18, 18, 16, 16 ..: never less than 16", x.lean(3, 16), NONE);
        check.due("less than 17", x.lean(3, 17), 8);
        check.due("less than 62", x.lean(3, 62), 3);
        check.due("shale counts", Check.told("m40 0;s10;").lean(1, 1), 3);
        check.due("no men", new RegretPit().lean(0, 1), 1);
    }

    private static void stillFrom0To60() {
        check.says("STILL: behind n (0 .. 60) WEEKS");
        RegretPit x = Check.told("m80 9;m7 9;s0;");
        check.due("0", x.still(1, 0, 0), 80);
        check.due("1", x.still(1, 1, 0), 40);
        check.due("60 of rest", x.still(0, 60, 0), 80 + 540);
        check.due("60 of work", x.still(1, 60, 0), 1);
        check.due("60 of another's work", x.still(1, 60, 1), 7 + 540);
        for (int bad : new int[] {-1, 61, LOW, HIGH}) {
            check.due("n is " + bad, x.still(1, bad, 0), BAD);
        }
        Check.quarrels(x, 0, 1, 10);
        check.due("999 at most", x.still(0, 60, 0), 999);
        check.due("580 and 419", x.still(0, 46, 0), 994);
        check.due("999 in 47", x.still(0, 47, 0), 999);
    }

    private static void stillMen() {
        check.says("STILL. BAD");
        RegretPit x = Check.told("m80 9;m7 9;c1;");
        for (int bad : new int[] {-1, 2, 32, LOW, HIGH}) {
            check.due("man " + bad, x.still(1, 1, bad), BAD);
        }
        for (int bad : new int[] {-1, 3, 4, LOW, HIGH}) {
            check.due("shift " + bad, x.still(bad, 1, 0), BAD);
        }
        check.due("no men", new RegretPit().still(0, 0, 0), BAD);
    }

    private static void matesAre(String text, int... want) {
        RegretPit x = Check.told(text);
        for (int m = -1; m < want.length - 1; m++) {
            check.due("mates(" + m + ") of " + text, x.mates(m), want[m + 1]);
        }
    }

    private static void matesOfSeveral() {
        check.says("MATES: of several the first (by who is the mate of MAN 0, then 1, ..; alone is ahead of all)");
        String four = "m0 0;".repeat(4);
        matesAre(four, 0, NONE, NONE, NONE, NONE);
        matesAre(four + "r0 1 0;r2 3 0;", 0, NONE, NONE, NONE, NONE);
        matesAre(four + "r0 1 5;r1 2 5;r2 3 0;", 5, NONE, 2, 1, NONE);
        matesAre(four + "r0 1 5;r2 3 5;r0 2 5;r1 3 5;r0 3 5;r1 2 5;", 10, 1, 0, 3, 2);
        matesAre(four + "r0 1 4;r2 3 5;r0 2 5;r1 3 4;r0 3 5;r1 2 4;", 9, 1, 0, 3, 2);
        matesAre(four + "r0 3 5;r1 2 4;r0 2 6;r1 3 3;", 9, 2, 3, 0, 1);
        matesAre(four + "r1 2 5;r1 3 5;r2 3 5;", 5, NONE, NONE, 3, 2);
    }

    private static void matesEachOnce() {
        check.says("MATES: two and two (each in one at most); NONE (alone)");
        matesAre("m0 0;m0 0;m0 0;r0 1 9;r1 2 9;r0 2 9;", 9, NONE, 2, 1);
        matesAre("m0 0;m0 0;e0 1 1;", 0, NONE, NONE);
        matesAre("m0 0;m0 0;r0 1 1;", 1, 1, 0);
        matesAre("m0 0;", 0, NONE);
        matesAre("", 0);
        matesAre("m0 0;".repeat(6) + "r0 1 9;r1 2 9;r2 3 9;r3 4 9;r4 5 9;c1;", 27, 1, 0, 3, 2, 5, 4);
    }

    private static void matesNumbers() {
        check.says("mates: (m = -1; NO: BAD)");
        RegretPit x = Check.told("m0 0;m0 0;");
        for (int bad : new int[] {-2, 2, 32, NONE, LOW, HIGH}) {
            check.due("mates(" + bad + ")", x.mates(bad), NO);
        }
        check.due("no men", new RegretPit().mates(0), NO);
    }

    private static void temperOfTwos() {
        check.says("TEMPER of a SHIFT: BESIDE of all twos of it. NO: BAD");
        RegretPit x = Check.told("m0 0;m0 0;m0 0;r0 1 9;e1 2 9;e0 2 9;");
        int[] want = {0, 0, 0, 9, 0, -9, -9, -9};
        for (int shift = 0; shift < 8; shift++) {
            check.due("temper(" + shift + ")", x.temper(shift), want[shift]);
        }
        for (int bad : new int[] {-1, 8, 64, LOW, HIGH}) {
            check.due("temper(" + bad + ")", x.temper(bad), NO);
        }
        check.due("beyond cage", Check.told("m0 0;m0 0;c1;").temper(3), NO);
        check.due("no men", new RegretPit().temper(0), 0);
    }

    private static void litSixAtMost() {
        check.says("LIT (6 at most): BAD (nobody in the SHIFT, too); FULL");
        RegretPit x = Check.told("m20 0;m30 0;c1;");
        for (int bad : new int[] {0, 3, 4, -1, 64, LOW, HIGH}) {
            check.due("shift " + bad, x.lights(bad, 5), BAD);
        }
        for (int i = 1; i <= 6; i++) {
            check.due("lit", x.lights(1, 10), i);
        }
        check.due("a seventh", x.lights(1, 10), FULL);
        check.due("BAD is ahead of FULL", x.lights(0, 10), BAD);
        check.due("BAD n is ahead of FULL", x.lights(1, 500), BAD);
        check.due("six", x.count(3), 6);
        check.due("six that agree", x.whose(), 1);
        x.forget();
        check.due("again", x.lights(2, 5), 1);
        check.due("no men", new RegretPit().lights(0, 0), BAD);
        check.due("no men, shift 1", new RegretPit().lights(1, 0), BAD);
    }

    private static void litFrom0To499() {
        check.says("a LUMP of n (0 .. 499)");
        RegretPit x = Check.told("m99 0;m1 0;r0 1 9;");
        for (int bad : new int[] {-1, 500, LOW, HIGH}) {
            check.due("n is " + bad, x.lights(1, bad), BAD);
        }
        check.due("nothing was lit", x.count(3), 0);
        check.due("0", x.lights(2, 0), 1);
        check.due("whose is 0", x.whose(), 2);
        x.forget();
        Check.quarrels(x, 0, 1, 18);
        check.due("499", x.lights(1, 499), 1);
        check.due("whose is 499", x.whose(), 1);
        x.lights(3, 499);
        check.due("999 at most: 499 again", x.whose(), 1);
        x.forget();
        x.lights(3, 455);
        check.due("901 and 9: 455", x.whose(), 2);
    }

    private static void whoseInEachOfThem() {
        check.says("WHOSE: he is in each of them");
        RegretPit x = Check.told("m20 0;m20 0;m20 0;r0 1 4;s50;");
        x.lights(7, 12);
        check.due("both who remind, shale or not", x.whose(), 3);
        x.lights(1, 10);
        check.due("0 alone", x.whose(), 1);
        x.lights(2, 10);
        check.due("1 alone, too: none is in both", x.whose(), 0);
        x.forget();
        x.lights(4, 10);
        x.lights(5, 10);
        x.lights(6, 10);
        check.due("2 in all of them", x.whose(), 4);
        x.lights(4, 9);
        check.due("not just that", x.whose(), 0);
        x.forget();
        x.lights(7, 10);
        x.quarrel(0, 2, 1);
        check.due("21 is cut to 10, too", x.whose(), 4);
        x.quarrel(0, 2, 1);
        check.due("22 is not", x.whose(), 0);
    }

    private static void whoseOfNothingLit() {
        check.says("WHOSE, nothing being LIT");
        check.due("nothing excludes a man", Check.told("m20 0;m20 0;m20 0;").whose(), 7);
        check.due("no men", new RegretPit().whose(), 0);
    }

    private static void soldFrom0To999() {
        check.says("SOLD: a MAN has n (0 .. 999) coins. BAD");
        RegretPit x = Check.told("m99 0;m99 0;m3 0;s1;");
        check.due("no heap", x.sold(999, 0), 0);
        check.due("no heap, whose", x.sold(999, 1), 0);
        Check.quarrels(x, 0, 1, 18);
        x.week(7);
        int[][] all = {{0, 0, 0}, {1, 1, 4}, {498, 1, 4}, {499, 499, 1}, {500, 500, 5}, {997, 500, 5}, {998, 998, 3}, {999, 999, 7}};
        for (int[] a : all) {
            check.due("sold(" + a[0] + ", 0)", x.sold(a[0], 0), a[1]);
            check.due("sold(" + a[0] + ", 1)", x.sold(a[0], 1), a[2]);
        }
        for (int bad : new int[] {-1, 1000, LOW, HIGH}) {
            check.due("n is " + bad, x.sold(bad, 0), BAD);
        }
        for (int bad : new int[] {-1, 2, LOW, HIGH}) {
            check.due("what is " + bad, x.sold(0, bad), BAD);
        }
    }

    private static void soldOfSeveral() {
        check.says("SOLD: whose (bits, of several the least); each once");
        RegretPit x = Check.told("m20 0;m20 0;m40 0;m20 0;m0 0;c6;s1;");
        x.week(31);
        int[][] all = {{9, 0, 0}, {10, 10, 1}, {20, 20, 3}, {30, 30, 5}, {40, 40, 7}, {49, 40, 7}, {50, 50, 15}, {60, 50, 15}};
        for (int[] a : all) {
            check.due("sold(" + a[0] + ", 0)", x.sold(a[0], 0), a[1]);
            check.due("sold(" + a[0] + ", 1)", x.sold(a[0], 1), a[2]);
        }
        check.due("more men than cage may be sold of", soldBeyondCage(), 7);
    }

    private static int soldBeyondCage() {
        RegretPit x = Check.told("m20 0;m20 0;m20 0;c1;s1;");
        x.week(1);
        x.week(2);
        x.week(4);
        return x.sold(30, 1);
    }

    private static void toldSixAtMost() {
        check.says("TOLD (6 at most): BAD; FULL");
        RegretPit x = new RegretPit();
        for (int i = 1; i <= 6; i++) {
            check.due("told", x.tells(10, 15), i);
        }
        check.due("a seventh", x.tells(10, 15), FULL);
        check.due("BAD is ahead of FULL", x.tells(100, 15), BAD);
        check.due("BAD y is ahead of FULL", x.tells(10, 300), BAD);
        check.due("six", x.count(4), 6);
        check.due("six alike", x.fit(0), 6);
        x.forget();
        check.due("again", x.tells(10, 15), 1);
    }

    private static void toldBounds() {
        check.says("TOLD: x (0 .. 99), then y (0 .. 299)");
        RegretPit x = new RegretPit();
        int[][] bad = {{-1, 0}, {100, 0}, {0, -1}, {0, 300}, {LOW, 0}, {HIGH, 0}, {0, LOW}, {0, HIGH}};
        for (int[] b : bad) {
            check.due("tells(" + b[0] + ", " + b[1] + ")", x.tells(b[0], b[1]), BAD);
        }
        check.due("nothing was told", x.count(4), 0);
        check.due("least", x.tells(0, 0), 1);
        check.due("b is 0", x.fit(0), 10);
        check.due("most", x.tells(99, 299), 2);
        check.due("nothing grows so", x.fit(0), 0);
    }

    private static void fitOfAll() {
        check.says("FIT: how many; the first (10 times a and b; a first); BAD");
        RegretPit x = new RegretPit();
        check.due("nothing told: all", x.fit(0), 100);
        check.due("the first", x.fit(1), 0);
        for (int bad : new int[] {-1, 3, LOW, HIGH}) {
            check.due("fit(" + bad + ")", x.fit(bad), BAD);
        }
        x.tells(99, 99 + 89 + 9);
        check.due("the greatest law", x.fit(1), 99);
        check.due("that alone", x.fit(0), 1);
        x.forget();
        x.tells(99, 99 + 9);
        check.due("(0, 9), (1, 0)", x.fit(0), 2);
        check.due("a first", x.fit(1), 9);
        x.forget();
        x.tells(9, 9);
        x.tells(0, 0);
        check.due("9 by 10 is cut: (0, 0), (1, 0)", x.fit(0), 2);
        x.tells(10, 11);
        check.due("10 is not", x.fit(1), 10);
    }

    private static void fitOfNone() {
        check.says("FIT: NONE; NEXT: NONE: none fits");
        RegretPit x = new RegretPit();
        x.tells(50, 49);
        check.due("nobody is less sorry", x.fit(0), 0);
        check.due("no first", x.fit(1), NONE);
        check.due("no next", x.fit(2), NONE);
        x.forget();
        x.tells(99, 198);
        check.due("above the greatest", x.fit(0), 0);
        x.forget();
        x.tells(0, 10);
        check.due("b is 9 at most", x.fit(1), NONE);
        x.forget();
        x.tells(0, 5);
        x.tells(0, 6);
        check.due("two that differ", x.fit(2), NONE);
    }

    private static void nextOfSeveral() {
        check.says("NEXT: the x (0 .. 99) of which those that fit tell most unlike y, of several the least");
        RegretPit x = new RegretPit();
        // a times 99 by 10 is 0, 9, 19 .. 89, so that only the sum 9 is met twice; by a lesser x more of them are
        check.due("all laws", x.fit(2), 99);
        x.tells(0, 4);
        check.due("ten of b 4: 10 is the first that tells all of them", x.fit(2), 10);
        x.tells(10, 18);
        check.due("one law: 0", x.fit(2), 0);
        x.forget();
        x.tells(90, 90 + 9);
        check.due("(0, 9), (1, 0)", x.fit(0), 2);
        check.due("0 tells them", x.fit(2), 0);
        x.forget();
        x.tells(9, 9);
        check.due("(0, 0), (1, 0): 10 tells them", x.fit(2), 10);
    }

    private static void belowIs(RegretPit x, int by, int n, int upper, int lower) {
        check.due("below(" + by + ", " + n + ", 0)", x.below(by, n, 0), upper);
        check.due("below(" + by + ", " + n + ", 1)", x.below(by, n, 1), lower);
    }

    private static void belowBounds() {
        check.says("BELOW by x (0 .. 10), n (0 .. 4). BAD");
        RegretPit x = Check.told("m99 0;m1 0;");
        int[][] bad = {{-1, 0, 0}, {11, 0, 0}, {0, -1, 0}, {0, 5, 0}, {0, 0, -1}, {0, 0, 2}, {LOW, 0, 0}, {HIGH, 0, 0},
            {0, LOW, 0}, {0, HIGH, 0}, {0, 0, LOW}, {0, 0, HIGH}};
        for (int[] b : bad) {
            check.due("below(" + b[0] + ", " + b[1] + ", " + b[2] + ")", x.below(b[0], b[1], b[2]), BAD);
        }
        belowIs(x, 0, 0, 100, 1);
        belowIs(x, 0, 4, 100, 1);
        belowIs(x, 10, 0, 100, 1);
        belowIs(x, 10, 1, 0, 1);
        belowIs(x, 10, 4, 0, 1);
    }

    private static void belowInLeastTerms() {
        check.says("BELOW: upper, lower number, in least terms");
        belowIs(Check.told("m7 0;"), 3, 1, 49, 10);
        belowIs(Check.told("m5 0;"), 3, 1, 7, 2);
        belowIs(Check.told("m10 0;"), 3, 1, 7, 1);
        belowIs(Check.told("m1 0;"), 9, 4, 1, 10000);
        belowIs(Check.told("m1 0;"), 5, 4, 1, 16);
        belowIs(Check.told("m1 0;"), 1, 4, 6561, 10000);
        belowIs(Check.told("m0 0;"), 1, 4, 0, 1);
        belowIs(new RegretPit(), 1, 4, 0, 1);
        RegretPit x = Check.told("m99 0;".repeat(6));
        Check.quarrels(x, 0, 1, 18);
        Check.quarrels(x, 2, 3, 18);
        Check.quarrels(x, 4, 5, 18);
        belowIs(x, 0, 4, 5994, 1);
        belowIs(x, 1, 4, 2997 * 6561, 5000);
    }

    private static void forgetsBoth() {
        check.says("forget: Nothing was LIT, TOLD: how much both were");
        RegretPit x = Check.told("m20 0;");
        check.due("none", x.forget(), 0);
        for (int i = 0; i < 7; i++) {
            x.lights(1, 10);
            x.tells(1, 1);
        }
        check.due("six and six", x.forget(), 12);
        check.due("none again", x.forget(), 0);
        check.due("lit", x.count(3), 0);
        check.due("told", x.count(4), 0);
    }
}
