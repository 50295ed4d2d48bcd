import java.util.ArrayList;
import java.util.List;

/**
 * "Refused, and nothing changes, the first of these: BAD, STATE, FULL." Each refused call is made on one of two
 * twins; then all that can be seen of both is drawn out of them, and must be alike.
 */
public final class RefusedTest {
    private static final int BAD = -1, STATE = -2, FULL = -3, NO = -1000000;
    private static final int LOW = Integer.MIN_VALUE, HIGH = Integer.MAX_VALUE;
    private static final Check check = new Check("RefusedTest");

    private interface Maker {
        RegretPit makes();
    }

    private interface Call {
        long on(RegretPit x);
    }

    public static void main(String[] args) {
        badMen();
        badShifts();
        badDeeds();
        badLooks();
        badClues();
        badKindsAndImages();
        states();
        fulls();
        badAheadOfOthers();
        faults();
        nobodyThere();
        check.ends();
    }

    /** Three men, two images, four deeds, one clue of each sort and a text that is not ended. */
    private static RegretPit busy() {
        RegretPit x = Check.told("m10 2;m21 0;m98 9;r0 1 5;e1 2 9;c2;s6;");
        x.week(3);
        x.keep(0);
        x.quarrel(0, 1, 7);
        x.week(4);
        x.keep(1);
        x.forgives(2);
        x.lights(1, 4);
        x.tells(10, 15);
        x.mark(4, 0);
        Check.types(x, "m7 1");
        return x;
    }

    private static void refused(String what, Maker maker, int answer, Call... calls) {
        List<Long> untouched = drawn(maker.makes());
        for (int i = 0; i < calls.length; i++) {
            RegretPit x = maker.makes();
            check.due(what + ", the call of place " + i, calls[i].on(x), answer);
            check.holds(what + ", the call of place " + i + " changes nothing", drawn(x).equals(untouched));
        }
    }

    private static void refused(String what, int answer, Call... calls) {
        refused(what, RefusedTest::busy, answer, calls);
    }

    /** All that calls can tell of an object; it is used up by that. */
    private static List<Long> drawn(RegretPit x) {
        List<Long> all = new ArrayList<>();
        looks(x, all);
        undoes(x, all);
        for (int image = 0; image < 2; image++) {
            all.add((long) x.back(image));
            pages(x, all);
            undoes(x, all);
        }
        x.type(';');
        all.add((long) x.pit());
        looks(x, all);
        return all;
    }

    private static void looks(RegretPit x, List<Long> all) {
        for (int what = 0; what < 7; what++) {
            all.add((long) x.count(what));
        }
        for (int what = 0; what < 5; what++) {
            all.add((long) x.now(what));
        }
        for (int m = 0; m < x.count(0); m++) {
            all.add((long) x.man(m, 1));
            for (int other = 0; other < m; other++) {
                all.add((long) x.beside(m, other));
            }
        }
        pages(x, all);
        all.add((long) x.plan(2, 10, -1));
        all.add((long) x.mates(-1));
        all.add((long) x.whose());
        all.add((long) x.fit(0));
        all.add((long) x.fit(1));
        all.add(x.trace());
    }

    private static void pages(RegretPit x, List<Long> all) {
        for (int m = 0; m < x.count(0); m++) {
            all.add((long) x.man(m, 0));
            all.add((long) x.man(m, 2));
        }
        all.add((long) x.now(0));
        all.add((long) x.now(1));
    }

    private static void undoes(RegretPit x, List<Long> all) {
        for (int i = 0; i < 10 && x.count(5) > 0; i++) {
            all.add((long) x.undo());
            pages(x, all);
        }
    }

    private static void badMen() {
        refused("man", BAD, x -> x.man(-1, 0), x -> x.man(3, 0), x -> x.man(32, 0), x -> x.man(LOW, 0), x -> x.man(HIGH, 0),
            x -> x.man(0, -1), x -> x.man(0, 3), x -> x.man(0, LOW), x -> x.man(0, HIGH));
        refused("beside", NO, x -> x.beside(-1, 0), x -> x.beside(0, -1), x -> x.beside(3, 0), x -> x.beside(0, 3),
            x -> x.beside(1, 1), x -> x.beside(3, 3), x -> x.beside(LOW, 0), x -> x.beside(0, HIGH));
        refused("type", BAD, x -> x.type(-1), x -> x.type(256), x -> x.type(LOW), x -> x.type(HIGH), x -> x.type(';' + 256));
        refused("count", BAD, x -> x.count(-1), x -> x.count(7), x -> x.count(LOW), x -> x.count(HIGH));
        refused("now", BAD, x -> x.now(-1), x -> x.now(5), x -> x.now(LOW), x -> x.now(HIGH));
    }

    private static void badShifts() {
        for (int bad : new int[] {-1, 7, 8, 9, 64, LOW, LOW + 1, HIGH, 1 << 30}) {
            refused("shift " + bad, BAD, x -> x.week(bad), x -> x.yieldOf(bad), x -> x.lean(bad, 1), x -> x.still(bad, 1, 0),
                x -> x.lights(bad, 1));
            refused("shift " + bad, NO, x -> x.temper(bad));
        }
    }

    private static void badDeeds() {
        refused("quarrel", BAD, x -> x.quarrel(0, 0, 1), x -> x.quarrel(2, 2, 1), x -> x.quarrel(-1, 0, 1),
            x -> x.quarrel(0, -1, 1), x -> x.quarrel(3, 0, 1), x -> x.quarrel(0, 3, 1), x -> x.quarrel(0, 1, 0),
            x -> x.quarrel(0, 1, 51), x -> x.quarrel(0, 1, -1), x -> x.quarrel(0, 1, LOW), x -> x.quarrel(0, 1, HIGH),
            x -> x.quarrel(LOW, 1, 1), x -> x.quarrel(0, HIGH, 1), x -> x.quarrel(32, 1, 1));
        for (int bad : new int[] {-1, 3, 32, LOW, HIGH}) {
            refused("man " + bad, BAD, x -> x.forgives(bad), x -> x.buys(bad));
        }
    }

    private static void badLooks() {
        refused("best", BAD, x -> x.best(-1), x -> x.best(2), x -> x.best(LOW), x -> x.best(HIGH));
        refused("plan", BAD, x -> x.plan(0, 0, 0), x -> x.plan(4, 0, 0), x -> x.plan(1, -1, 0), x -> x.plan(1, 100, 0),
            x -> x.plan(1, 0, -2), x -> x.plan(1, 0, 3), x -> x.plan(LOW, 0, 0), x -> x.plan(1, HIGH, 0), x -> x.plan(1, 0, LOW));
        refused("lean", BAD, x -> x.lean(1, 0), x -> x.lean(1, 1000), x -> x.lean(1, LOW), x -> x.lean(1, HIGH));
        refused("still", BAD, x -> x.still(1, -1, 0), x -> x.still(1, 61, 0), x -> x.still(1, 1, -1), x -> x.still(1, 1, 3),
            x -> x.still(1, LOW, 0), x -> x.still(1, HIGH, 0), x -> x.still(1, 1, LOW));
        refused("mates", NO, x -> x.mates(-2), x -> x.mates(3), x -> x.mates(LOW), x -> x.mates(HIGH));
        refused("below", BAD, x -> x.below(-1, 0, 0), x -> x.below(11, 0, 0), x -> x.below(0, -1, 0), x -> x.below(0, 5, 0),
            x -> x.below(0, 0, -1), x -> x.below(0, 0, 2), x -> x.below(LOW, 0, 0), x -> x.below(0, HIGH, 0));
    }

    private static void badClues() {
        refused("lights", BAD, x -> x.lights(0, 1), x -> x.lights(1, -1), x -> x.lights(1, 500), x -> x.lights(1, LOW),
            x -> x.lights(1, HIGH));
        refused("tells", BAD, x -> x.tells(-1, 0), x -> x.tells(100, 0), x -> x.tells(0, -1), x -> x.tells(0, 300),
            x -> x.tells(LOW, 0), x -> x.tells(HIGH, 0), x -> x.tells(0, LOW), x -> x.tells(0, HIGH));
        refused("sold", BAD, x -> x.sold(-1, 0), x -> x.sold(1000, 0), x -> x.sold(0, -1), x -> x.sold(0, 2),
            x -> x.sold(LOW, 0), x -> x.sold(HIGH, 0));
        refused("fit", BAD, x -> x.fit(-1), x -> x.fit(3), x -> x.fit(LOW), x -> x.fit(HIGH));
    }

    private static void badKindsAndImages() {
        refused("mark", NO, x -> x.mark(-1, 0), x -> x.mark(6, 0), x -> x.mark(0, -1), x -> x.mark(0, 3), x -> x.mark(LOW, 0),
            x -> x.mark(HIGH, 0), x -> x.mark(0, LOW), x -> x.mark(0, HIGH));
        for (int bad : new int[] {-1, 2, LOW, HIGH}) {
            refused("image " + bad, BAD, x -> x.keep(bad), x -> x.back(bad));
        }
    }

    private static RegretPit inWeek300() {
        RegretPit x = Check.told("m9 1;");
        for (int i = 0; i < 300; i++) {
            x.week(0);
        }
        return x;
    }

    private static RegretPit above999() {
        RegretPit x = Check.told("m99 1;m0 0;");
        x.week(1);
        Check.quarrels(x, 0, 1, 19);
        return x;
    }

    private static RegretPit allBought() {
        RegretPit x = busy();
        for (int m = 0; m < 3; m++) {
            x.buys(m);
        }
        return x;
    }

    private static void states() {
        refused("week 300", RefusedTest::inWeek300, STATE, x -> x.week(0), x -> x.week(1));
        refused("no lump any more", RefusedTest::allBought, STATE, x -> x.buys(0), x -> x.buys(1), x -> x.buys(2));
        refused("no lump at all", () -> Check.told("m50 1;"), STATE, x -> x.buys(0), x -> x.undo(), x -> x.back(0), x -> x.back(1));
        refused("above 999", RefusedTest::above999, STATE, x -> x.buys(0));
        refused("nothing known", RegretPit::new, STATE, x -> x.undo(), x -> x.back(0), x -> x.back(1));
    }

    private static RegretPit brimful() {
        RegretPit x = Check.told("m20 1;m30 0;");
        for (int i = 0; i < 6; i++) {
            x.lights(1, 10);
            x.tells(10, 15);
        }
        Check.types(x, "m1 1;" + " ".repeat(145));
        return x;
    }

    private static void fulls() {
        refused("full", RefusedTest::brimful, FULL, x -> x.type(0), x -> x.type(255), x -> x.type('m'), x -> x.lights(1, 10),
            x -> x.lights(2, 0), x -> x.tells(0, 0), x -> x.tells(99, 299));
    }

    private static void badAheadOfOthers() {
        refused("BAD ahead of FULL", RefusedTest::brimful, BAD, x -> x.type(-1), x -> x.type(256), x -> x.lights(0, 10),
            x -> x.lights(1, 500), x -> x.lights(4, 10), x -> x.tells(100, 0), x -> x.tells(0, 300));
        refused("BAD ahead of STATE", RefusedTest::inWeek300, BAD, x -> x.week(2), x -> x.week(-1), x -> x.buys(1), x -> x.back(2));
    }

    private static void faults() {
        refused("a fault", -14, x -> x.pit());
        refused("a fault, again and again", -14, x -> {
            x.pit();
            return x.pit();
        });
        refused("a fault behind much that is told", RefusedTest::busyWithMore, -50, x -> x.pit());
    }

    private static RegretPit busyWithMore() {
        RegretPit x = busy();
        x.clear();
        Check.types(x, "m1 1;m2 2;m3 3;m4 4;e0 1 9;r0 2 9;c1;s0;s");
        return x;
    }

    private static void nobodyThere() {
        refused("nobody", RegretPit::new, BAD, x -> x.man(0, 0), x -> x.week(1), x -> x.quarrel(0, 1, 1), x -> x.forgives(0),
            x -> x.buys(0), x -> x.yieldOf(1), x -> x.lean(1, 1), x -> x.still(0, 0, 0), x -> x.lights(0, 0), x -> x.lights(1, 0));
        refused("nobody", RegretPit::new, NO, x -> x.beside(0, 1), x -> x.temper(1), x -> x.mates(0), x -> x.mark(0, 0));
    }
}
