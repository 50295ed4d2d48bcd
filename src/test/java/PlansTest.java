import java.util.Random;

/** PLAN of four to six men, by a fixed seed, compared with all rows of shifts gone through without leaving any out. */
public final class PlansTest {
    private static final int PITS = 300;
    private static final int PLANS = 4;
    private static final Check check = new Check("PlansTest");
    private static final Random random = new Random(181126);

    private static int size;
    private static int cage;
    private static int shale;
    private static int[] atFirst;
    private static int[] grows;
    private static int[][] beside;
    private static int weeks;
    private static int least;
    private static int most;
    private static int[] bestRow;

    public static void main(String[] args) {
        check.says("that by which most is brought in all, of several the first (by numbers)");
        for (int i = 0; i < PITS; i++) {
            String text = text();
            RegretPit x = Check.told(text);
            quarrels(x);
            for (int plan = 0; plan < PLANS; plan++) {
                comparesPlan(text, x, plan == 0 ? 3 : 1 + random.nextInt(3), random.nextInt(100));
            }
        }
        check.ends();
    }

    private static String text() {
        size = 4 + random.nextInt(3);
        cage = 1 + random.nextInt(6);
        shale = random.nextInt(random.nextBoolean() ? 51 : 10);
        atFirst = new int[size];
        grows = new int[size];
        beside = new int[size][size];
        StringBuilder text = new StringBuilder();
        for (int m = 0; m < size; m++) {
            atFirst[m] = random.nextInt(random.nextInt(3) == 0 ? 10 : 100);
            grows[m] = random.nextInt(10);
            text.append('m').append(atFirst[m]).append(' ').append(grows[m]).append(';');
        }
        for (int i = random.nextInt(13); i > 0; i--) {
            int a = random.nextInt(size);
            int b = (a + 1 + random.nextInt(size - 1)) % size;
            int by = random.nextInt(19) - 9;
            text.append(by < 0 ? 'e' : 'r').append(a).append(' ').append(b).append(' ').append(Math.abs(by)).append(';');
            beside[a][b] = by;
            beside[b][a] = by;
        }
        return text.append('c').append(cage).append(";s").append(shale).append(';').toString();
    }

    private static void quarrels(RegretPit x) {
        for (int i = random.nextInt(12); i > 0; i--) {
            int a = random.nextInt(size);
            int b = (a + 1 + random.nextInt(size - 1)) % size;
            int by = 1 + random.nextInt(50);
            x.quarrel(a, b, by);
            atFirst[a] += by;
            atFirst[b] += by;
        }
    }

    private static void comparesPlan(String text, RegretPit x, int n, int v) {
        weeks = n;
        least = v;
        most = -1;
        goesThrough(0, atFirst, 0, new int[3]);
        String call = text + " plan(" + n + ", " + v + ", ";
        check.due(call + "-1)", x.plan(n, v, -1), most);
        for (int k = 0; k < 3; k++) {
            check.due(call + k + ")", x.plan(n, v, k), k < n ? bestRow[k] : RegretPit.NONE);
        }
    }

    private static void goesThrough(int done, int[] sorry, int brought, int[] row) {
        if (done == weeks) {
            if (brought > most) {
                most = brought;
                bestRow = row.clone();
            }
            return;
        }
        for (int shift = 0; shift < 1 << size; shift++) {
            if (Integer.bitCount(shift) <= cage) {
                int[] then = new int[size];
                int coins = week(sorry, then, shift);
                if (nobodyIsEmptied(then)) {
                    row[done] = shift;
                    goesThrough(done + 1, then, brought + coins, row);
                }
            }
        }
    }

    private static int week(int[] sorry, int[] then, int shift) {
        int coins = 0;
        for (int m = 0; m < size; m++) {
            if ((shift >> m & 1) == 0) {
                then[m] = Math.min(999, sorry[m] + grows[m]);
                continue;
            }
            int moved = sorry[m];
            for (int other = 0; other < size; other++) {
                moved += (shift >> other & 1) * beside[m][other];
            }
            moved = Math.max(0, Math.min(999, moved));
            then[m] = moved - moved / 2;
            coins += moved / 2 >= shale ? moved / 2 : 0;
        }
        return coins;
    }

    private static boolean nobodyIsEmptied(int[] then) {
        for (int m = 0; m < size; m++) {
            if (atFirst[m] >= least && then[m] < least) {
                return false;
            }
        }
        return true;
    }
}
