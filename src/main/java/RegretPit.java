import java.util.Arrays;

/**
 * A pit of second thoughts: what is hauled up is worth what the man who cut it would give not to have.
 * The words in capitals in the document (SORRY, SHIFT, HEAP ..) bear the same names here.
 */
public final class RegretPit {
    public static final int BAD = -1, STATE = -2, FULL = -3, NONE = -9;
    public static final int NO = -1000000;

    private static final int MEN_MOST = 6;
    private static final int SHIFTS_MOST = 1 << MEN_MOST;
    private static final int SORRY_MOST = 999;
    private static final int BROUGHT_MOST = 999999;
    private static final int WEEK_LAST = 300;
    private static final int AGAIN_MOST = 60;
    private static final int PLAN_MOST = 3;
    private static final int UNDO_MOST = 10;
    private static final int TEXT_MOST = 150;
    private static final int CLUES_MOST = 6;
    private static final int LUMP_MOST = 499;
    private static final int IMAGES = 2;
    private static final int LAWS = 100;
    private static final int LAW_X_MOST = 99;
    private static final int LAW_Y_MOST = 299;

    private final Text text = new Text();
    private final Crew draft = new Crew();
    private final Crew crew = new Crew();
    private final Now now = new Now();
    private final Now[] images = {new Now(), new Now()};
    private final boolean[] kept = new boolean[IMAGES];
    private final Planner planner = new Planner();
    private final Matcher matcher = new Matcher();
    private final Lump[] kinds = {new Lump(), new Sigh(), new Ring(), new Salt(), new Seam(), new Dust()};
    private final int[] later = new int[MEN_MOST];
    private final int[] litShift = new int[CLUES_MOST];
    private final int[] litLump = new int[CLUES_MOST];
    private final int[] toldX = new int[CLUES_MOST];
    private final int[] toldY = new int[CLUES_MOST];
    private final int[] fitting = new int[LAWS];
    private final int[] seen = new int[LAW_Y_MOST + 1];
    private int lit;
    private int told;

    public RegretPit() {
    }

    // ---- the pit

    public int type(int c) {
        if (c < 0 || c > 255) {
            return BAD;
        }
        if (text.length >= TEXT_MOST) {
            return FULL;
        }
        text.adds(c);
        return text.length;
    }

    public int clear() {
        int had = text.length;
        text.length = 0;
        return had;
    }

    public int pit() {
        int items = text.reads(draft);
        if (items < 0) {
            return items;
        }
        text.length = 0;
        crew.becomes(draft);
        planner.forgets();
        now.begins(crew);
        lit = 0;
        told = 0;
        for (int i = 0; i < IMAGES; i++) {
            kept[i] = false;
        }
        return items;
    }

    public int man(int m, int what) {
        if (!crew.isMan(m)) {
            return BAD;
        }
        switch (what) {
            case 0:
                return now.sorry[m];
            case 1:
                return crew.grows[m];
            case 2:
                return now.heap[m];
            default:
                return BAD;
        }
    }

    public int beside(int a, int b) {
        return crew.areTwo(a, b) ? crew.beside[a][b] : NO;
    }

    // ---- what is done

    public int week(int shift) {
        if (!crew.isShift(shift)) {
            return BAD;
        }
        if (now.week >= WEEK_LAST) {
            return STATE;
        }
        now.remembers();
        int brought = 0;
        for (int m = 0; m < crew.size; m++) {
            int coins = crew.coinsOf(now.sorry[m], m, shift);
            brought += coins;
            if (coins > 0) {
                now.heap[m] = coins;
            }
        }
        crew.lives(now.sorry, now.sorry, shift);
        now.brought = Math.min(BROUGHT_MOST, now.brought + brought);
        now.week++;
        return brought;
    }

    public int quarrel(int a, int b, int n) {
        if (!crew.areTwo(a, b) || n < 1 || n > 50) {
            return BAD;
        }
        now.remembers();
        now.sorry[a] = Math.min(SORRY_MOST, now.sorry[a] + n);
        now.sorry[b] = Math.min(SORRY_MOST, now.sorry[b] + n);
        return now.sorry[a];
    }

    public int forgives(int m) {
        if (!crew.isMan(m)) {
            return BAD;
        }
        now.remembers();
        int was = now.sorry[m];
        now.sorry[m] = 0;
        return was;
    }

    public int buys(int m) {
        if (!crew.isMan(m)) {
            return BAD;
        }
        int coins = now.heap[m];
        if (coins == 0 || now.sorry[m] + coins > SORRY_MOST) {
            return STATE;
        }
        now.remembers();
        now.sorry[m] += coins;
        now.heap[m] = 0;
        now.brought -= coins;
        return coins;
    }

    public int undo() {
        if (now.known == 0) {
            return STATE;
        }
        now.recalls();
        return now.known;
    }

    public int now(int what) {
        switch (what) {
            case 0:
                return now.week;
            case 1:
                return now.brought;
            case 2:
                return sumOf(now.sorry);
            case 3:
                return sumOf(now.heap);
            case 4:
                return payForAll();
            default:
                return BAD;
        }
    }

    private int sumOf(int[] row) {
        int sum = 0;
        for (int m = 0; m < crew.size; m++) {
            sum += row[m];
        }
        return sum;
    }

    private int payForAll() {
        int pay = 0;
        for (int m = 0; m < crew.size; m++) {
            pay = Math.max(pay, now.sorry[m] / 2 + 1);
        }
        return pay;
    }

    // ---- shifts

    public int yieldOf(int shift) {
        return crew.isShift(shift) ? crew.brings(now.sorry, shift) : BAD;
    }

    public int best(int what) {
        if (what < 0 || what > 1) {
            return BAD;
        }
        int which = 0;
        int most = 0;
        for (int shift = 1; shift < 1 << crew.size; shift++) {
            int brought = crew.isShift(shift) ? crew.brings(now.sorry, shift) : 0;
            if (brought > most) {
                most = brought;
                which = shift;
            }
        }
        return what == 0 ? which : most;
    }

    public int plan(int n, int v, int k) {
        if (n < 1 || n > PLAN_MOST || v < 0 || v > 99 || k < -1 || k >= PLAN_MOST) {
            return BAD;
        }
        if (k >= n) {
            return NONE;
        }
        planner.searches(crew, now.sorry, n, v);
        return k < 0 ? planner.most : planner.bestWay[k];
    }

    public int lean(int shift, int v) {
        if (!crew.isShift(shift) || v < 1 || v > SORRY_MOST) {
            return BAD;
        }
        System.arraycopy(now.sorry, 0, later, 0, MEN_MOST);
        for (int w = 1; w <= AGAIN_MOST; w++) {
            if (crew.brings(later, shift) < v) {
                return w;
            }
            crew.lives(later, later, shift);
        }
        return NONE;
    }

    public int still(int shift, int n, int m) {
        if (!crew.isShift(shift) || n < 0 || n > AGAIN_MOST || !crew.isMan(m)) {
            return BAD;
        }
        System.arraycopy(now.sorry, 0, later, 0, MEN_MOST);
        for (int w = 0; w < n; w++) {
            crew.lives(later, later, shift);
        }
        return later[m];
    }

    public int temper(int shift) {
        if (!crew.isShift(shift)) {
            return NO;
        }
        int sum = 0;
        for (int m = 0; m < crew.size; m++) {
            // only the men below m: each two counts once
            sum += (shift >> m & 1) == 1 ? crew.pullOf(m, shift & (1 << m) - 1) : 0;
        }
        return sum;
    }

    public int mates(int m) {
        if (m != -1 && !crew.isMan(m)) {
            return NO;
        }
        matcher.searches(crew);
        return m < 0 ? matcher.most : matcher.best[m];
    }

    // ---- whose, what for

    public int lights(int shift, int n) {
        if (!crew.isShift(shift) || shift == 0 || n < 0 || n > LUMP_MOST) {
            return BAD;
        }
        if (lit >= CLUES_MOST) {
            return FULL;
        }
        litShift[lit] = shift;
        litLump[lit] = n;
        lit++;
        return lit;
    }

    public int forget() {
        int both = lit + told;
        lit = 0;
        told = 0;
        return both;
    }

    public int whose() {
        int men = 0;
        for (int m = 0; m < crew.size; m++) {
            men |= isLitBy(m) ? 1 << m : 0;
        }
        return men;
    }

    private boolean isLitBy(int m) {
        for (int i = 0; i < lit; i++) {
            boolean inIt = (litShift[i] >> m & 1) == 1;
            if (!inIt || crew.cutOf(now.sorry[m], m, litShift[i]) != litLump[i]) {
                return false;
            }
        }
        return true;
    }

    public int sold(int n, int what) {
        if (n < 0 || n > 999 || what < 0 || what > 1) {
            return BAD;
        }
        int most = 0;
        int which = 0;
        for (int men = 1; men < 1 << crew.size; men++) {
            int worth = heapOf(men);
            if (worth <= n && worth > most) {
                most = worth;
                which = men;
            }
        }
        return what == 0 ? most : which;
    }

    private int heapOf(int men) {
        int worth = 0;
        for (int m = 0; m < crew.size; m++) {
            worth += (men >> m & 1) == 1 ? now.heap[m] : 0;
        }
        return worth;
    }

    // ---- laws, odds

    public int tells(int x, int y) {
        if (x < 0 || x > LAW_X_MOST || y < 0 || y > LAW_Y_MOST) {
            return BAD;
        }
        if (told >= CLUES_MOST) {
            return FULL;
        }
        toldX[told] = x;
        toldY[told] = y;
        told++;
        return told;
    }

    public int fit(int what) {
        if (what < 0 || what > 2) {
            return BAD;
        }
        int fits = gathersFitting();
        if (what == 0) {
            return fits;
        }
        if (fits == 0) {
            return NONE;
        }
        return what == 1 ? fitting[0] : mostTelling(fits);
    }

    private static int lawOf(int law, int x) {
        return x + law / 10 * x / 10 + law % 10;
    }

    private int gathersFitting() {
        int fits = 0;
        for (int law = 0; law < LAWS; law++) {
            boolean holds = true;
            for (int i = 0; i < told; i++) {
                holds = holds && lawOf(law, toldX[i]) == toldY[i];
            }
            if (holds) {
                fitting[fits] = law;
                fits++;
            }
        }
        return fits;
    }

    private int mostTelling(int fits) {
        Arrays.fill(seen, 0);
        int most = 0;
        int which = 0;
        for (int x = 0; x <= LAW_X_MOST; x++) {
            int unlike = 0;
            for (int i = 0; i < fits; i++) {
                int y = lawOf(fitting[i], x);
                if (seen[y] != x + 1) {
                    // x itself is the stamp, so that the row needs no clearing for each x
                    seen[y] = x + 1;
                    unlike++;
                }
            }
            if (unlike > most) {
                most = unlike;
                which = x;
            }
        }
        return which;
    }

    public int below(int x, int n, int what) {
        if (x < 0 || x > 10 || n < 0 || n > 4 || what < 0 || what > 1) {
            return BAD;
        }
        int upper = sumOf(now.sorry);
        int lower = 1;
        for (int i = 0; i < n; i++) {
            upper *= 10 - x;
            lower *= 10;
        }
        int common = Math.max(1, commonOf(upper, lower));
        return what == 0 ? upper / common : lower / common;
    }

    private static int commonOf(int a, int b) {
        int big = a;
        int small = b;
        for (int i = 0; i < 64 && small != 0; i++) {
            int rest = big % small;
            big = small;
            small = rest;
        }
        return big;
    }

    // ---- kinds, images

    public int mark(int kind, int m) {
        if (kind < 0 || kind >= kinds.length || !crew.isMan(m)) {
            return NO;
        }
        return kinds[kind].worth(crew, now, m);
    }

    public int keep(int image) {
        if (image < 0 || image >= IMAGES) {
            return BAD;
        }
        images[image].becomes(now);
        kept[image] = true;
        return now.week;
    }

    public int back(int image) {
        if (image < 0 || image >= IMAGES) {
            return BAD;
        }
        if (!kept[image]) {
            return STATE;
        }
        now.becomes(images[image]);
        return now.week;
    }

    public int count(int what) {
        switch (what) {
            case 0:
                return crew.size;
            case 1:
                return crew.cage;
            case 2:
                return crew.shale;
            case 3:
                return lit;
            case 4:
                return told;
            case 5:
                return now.known;
            case 6:
                return text.length;
            default:
                return BAD;
        }
    }

    public long trace() {
        long sum = 0;
        for (int i = 0; i < kinds.length; i++) {
            sum += kinds[i].asked;
        }
        return sum;
    }

    /** What a text tells: MEN, BESIDE, CAGE, SHALE; and how a WEEK by a SHIFT goes for them. */
    private static final class Crew {
        int size;
        int cage = 3;
        int shale = 5;
        final int[] sorry = new int[MEN_MOST];
        final int[] grows = new int[MEN_MOST];
        final int[][] beside = new int[MEN_MOST][MEN_MOST];
        // BESIDE of a man and all of a SHIFT, worked out once since plans ask for it many thousand times
        private final int[][] pull = new int[MEN_MOST][SHIFTS_MOST];
        private final int[] pullMost = new int[MEN_MOST];

        void empties() {
            size = 0;
            cage = 3;
            shale = 5;
            for (int m = 0; m < MEN_MOST; m++) {
                Arrays.fill(beside[m], 0);
            }
        }

        void becomes(Crew other) {
            size = other.size;
            cage = other.cage;
            shale = other.shale;
            System.arraycopy(other.sorry, 0, sorry, 0, MEN_MOST);
            System.arraycopy(other.grows, 0, grows, 0, MEN_MOST);
            for (int m = 0; m < MEN_MOST; m++) {
                System.arraycopy(other.beside[m], 0, beside[m], 0, MEN_MOST);
                measures(m);
            }
        }

        private void measures(int m) {
            pullMost[m] = 0;
            for (int shift = 0; shift < 1 << size; shift++) {
                int sum = 0;
                for (int other = 0; other < size; other++) {
                    sum += (shift >> other & 1) == 1 ? beside[m][other] : 0;
                }
                pull[m][shift] = sum;
                if (isShift(shift | 1 << m)) {
                    pullMost[m] = Math.max(pullMost[m], sum);
                }
            }
        }

        boolean isMan(int m) {
            return m >= 0 && m < size;
        }

        boolean areTwo(int a, int b) {
            return isMan(a) && isMan(b) && a != b;
        }

        boolean isShift(int shift) {
            return shift >= 0 && shift < 1 << size && Integer.bitCount(shift) <= cage;
        }

        int pullOf(int m, int shift) {
            return pull[m][shift];
        }

        private int aheadOfCut(int sorrow, int m, int shift) {
            int moved = sorrow + pull[m][shift];
            return moved < 0 ? 0 : moved > SORRY_MOST ? SORRY_MOST : moved;
        }

        int cutOf(int sorrow, int m, int shift) {
            return aheadOfCut(sorrow, m, shift) / 2;
        }

        /** What no SHIFT can have more than of him. */
        int coinsAtMost(int sorrow, int m) {
            int lump = Math.min(SORRY_MOST, sorrow + pullMost[m]) / 2;
            return lump < shale ? 0 : lump;
        }

        int coinsOf(int sorrow, int m, int shift) {
            if ((shift >> m & 1) == 0) {
                return 0;
            }
            int lump = aheadOfCut(sorrow, m, shift) / 2;
            return lump < shale ? 0 : lump;
        }

        int brings(int[] sorrows, int shift) {
            int sum = 0;
            for (int m = 0; m < size; m++) {
                sum += coinsOf(sorrows[m], m, shift);
            }
            return sum;
        }

        /** A WEEK for all of them; the two rows may be one, since no man's SORRY looks at another's. */
        void lives(int[] from, int[] to, int shift) {
            for (int m = 0; m < size; m++) {
                if ((shift >> m & 1) == 1) {
                    int sorrow = aheadOfCut(from[m], m, shift);
                    to[m] = sorrow - sorrow / 2;
                } else {
                    to[m] = Math.min(SORRY_MOST, from[m] + grows[m]);
                }
            }
        }
    }

    /** What IMAGES keep: how SORRY all are, HEAP, what was brought, THE WEEK, and what may be UNDONE. */
    private static final class Now {
        private static final int PAGE = 2 * MEN_MOST + 2;

        final int[] sorry = new int[MEN_MOST];
        final int[] heap = new int[MEN_MOST];
        int brought;
        int week;
        int known;
        private final int[] past = new int[UNDO_MOST * PAGE];

        void begins(Crew crew) {
            System.arraycopy(crew.sorry, 0, sorry, 0, MEN_MOST);
            Arrays.fill(heap, 0);
            brought = 0;
            week = 0;
            known = 0;
        }

        void becomes(Now other) {
            System.arraycopy(other.sorry, 0, sorry, 0, MEN_MOST);
            System.arraycopy(other.heap, 0, heap, 0, MEN_MOST);
            System.arraycopy(other.past, 0, past, 0, past.length);
            brought = other.brought;
            week = other.week;
            known = other.known;
        }

        void remembers() {
            if (known >= UNDO_MOST) {
                System.arraycopy(past, PAGE, past, 0, past.length - PAGE);
                known = UNDO_MOST - 1;
            }
            int page = known * PAGE;
            System.arraycopy(sorry, 0, past, page, MEN_MOST);
            System.arraycopy(heap, 0, past, page + MEN_MOST, MEN_MOST);
            past[page + PAGE - 2] = brought;
            past[page + PAGE - 1] = week;
            known++;
        }

        void recalls() {
            if (known <= 0) {
                return;
            }
            known--;
            int page = known * PAGE;
            System.arraycopy(past, page, sorry, 0, MEN_MOST);
            System.arraycopy(past, page + MEN_MOST, heap, 0, MEN_MOST);
            brought = past[page + PAGE - 2];
            week = past[page + PAGE - 1];
        }
    }

    /** THE TEXT, and how it is read TOKEN by TOKEN. */
    private static final class Text {
        private static final int END = 0, LETTERS = 1, NUMBER = 2, STOP = 3, WRONG = 4;
        private static final int NO_ITEM = 0;

        int length;
        private final int[] bytes = new int[TEXT_MOST];
        private int place;
        private int behind;
        private int token;
        private int value;
        private boolean fault;
        private boolean cageTold;
        private boolean shaleTold;

        void adds(int c) {
            if (length < TEXT_MOST) {
                bytes[length] = c;
                length++;
            }
        }

        /** How many ITEMS, all put down in the draft; -10 less FAULT. */
        int reads(Crew draft) {
            draft.empties();
            behind = 0;
            fault = false;
            cageTold = false;
            shaleTold = false;
            for (int items = 0; items <= TEXT_MOST; items++) {
                readsToken();
                if (token == END) {
                    return items;
                }
                readsItem(draft);
                if (!fault) {
                    readsToken();
                    fault = token != STOP;
                }
                if (fault) {
                    return -10 - place;
                }
            }
            return -10 - length;
        }

        private void readsItem(Crew draft) {
            switch (token == LETTERS ? value : NO_ITEM) {
                case 'm':
                    readsMan(draft);
                    break;
                case 'r':
                    readsTwo(draft, 1);
                    break;
                case 'e':
                    readsTwo(draft, -1);
                    break;
                case 'c':
                    fault = cageTold;
                    cageTold = true;
                    draft.cage = readsNumber(1, MEN_MOST);
                    break;
                case 's':
                    fault = shaleTold;
                    shaleTold = true;
                    draft.shale = readsNumber(0, 50);
                    break;
                default:
                    fault = true;
                    break;
            }
        }

        private void readsMan(Crew draft) {
            fault = draft.size >= MEN_MOST;
            int sorrow = readsNumber(0, 99);
            int growth = readsNumber(0, 9);
            if (!fault) {
                draft.sorry[draft.size] = sorrow;
                draft.grows[draft.size] = growth;
                draft.size++;
            }
        }

        private void readsTwo(Crew draft, int sign) {
            int a = readsNumber(0, draft.size - 1);
            int b = readsNumber(0, draft.size - 1);
            fault = fault || a == b;
            int by = sign * readsNumber(0, 9);
            if (!fault) {
                draft.beside[a][b] = by;
                draft.beside[b][a] = by;
            }
        }

        /** Once there is a fault no more is read, so that its place stays. */
        private int readsNumber(int low, int high) {
            if (fault) {
                return low;
            }
            readsToken();
            fault = token != NUMBER || value < low || value > high;
            return value;
        }

        private void readsToken() {
            while (behind < length && bytes[behind] == ' ') {
                behind++;
            }
            place = behind;
            token = signAt(place);
            if (token == STOP) {
                behind++;
            } else if (token == LETTERS || token == NUMBER) {
                while (behind < length && signAt(behind) == token) {
                    behind++;
                }
                readsValue(behind - place);
            }
        }

        private int signAt(int at) {
            if (at >= length) {
                return END;
            }
            int c = bytes[at];
            if (c >= 'a' && c <= 'z') {
                return LETTERS;
            }
            if (c >= '0' && c <= '9') {
                return NUMBER;
            }
            return c == ';' ? STOP : WRONG;
        }

        private void readsValue(int many) {
            if (token == LETTERS) {
                value = many == 1 ? bytes[place] : NO_ITEM;
            } else if (many == 1) {
                value = bytes[place] - '0';
            } else if (many == 2 && bytes[place] != '0') {
                value = (bytes[place] - '0') * 10 + bytes[place + 1] - '0';
            } else {
                // three digits and more are above 99, or have a 0 ahead
                token = WRONG;
            }
        }
    }

    /** PLAN: looks through all rows of SHIFTS, the first by numbers first. */
    private static final class Planner {
        int most;
        final int[] bestWay = new int[PLAN_MOST];
        private final int[][] rows = new int[PLAN_MOST + 1][MEN_MOST];
        private final int[] way = new int[PLAN_MOST];
        private int weeks;
        private int least;
        private int held;

        /** The latest answer is of no use any more: other MEN. */
        void forgets() {
            weeks = 0;
        }

        void searches(Crew crew, int[] sorry, int n, int v) {
            if (n == weeks && v == least && isStart(crew, sorry)) {
                return;
            }
            weeks = n;
            least = v;
            most = -1;
            held = 0;
            for (int m = 0; m < crew.size; m++) {
                rows[0][m] = sorry[m];
                held |= sorry[m] >= v ? 1 << m : 0;
            }
            looks(crew, 0, 0);
        }

        private boolean isStart(Crew crew, int[] sorry) {
            for (int m = 0; m < crew.size; m++) {
                if (rows[0][m] != sorry[m]) {
                    return false;
                }
            }
            return true;
        }

        private void looks(Crew crew, int depth, int sum) {
            if (depth >= weeks || depth >= PLAN_MOST) {
                takes(sum);
                return;
            }
            boolean last = depth == weeks - 1;
            if (last && sum + ceiling(crew, rows[depth]) <= most) {
                return;
            }
            for (int shift = 0; shift < 1 << crew.size; shift++) {
                if (!crew.isShift(shift)) {
                    continue;
                }
                int all = sum + crew.brings(rows[depth], shift);
                if (last && all <= most) {
                    continue;
                }
                crew.lives(rows[depth], rows[depth + 1], shift);
                if (holds(crew, rows[depth + 1])) {
                    way[depth] = shift;
                    looks(crew, depth + 1, all);
                }
            }
        }

        private void takes(int sum) {
            if (sum > most) {
                most = sum;
                System.arraycopy(way, 0, bestWay, 0, PLAN_MOST);
            }
        }

        private boolean holds(Crew crew, int[] row) {
            for (int m = 0; m < crew.size; m++) {
                if ((held >> m & 1) == 1 && row[m] < least) {
                    return false;
                }
            }
            return true;
        }

        /** What one WEEK can't bring more than: the greatest coins, of as many as CAGE. */
        private int ceiling(Crew crew, int[] row) {
            int sum = 0;
            int used = 0;
            for (int place = 0; place < crew.cage; place++) {
                int top = 0;
                int who = 0;
                for (int m = 0; m < crew.size; m++) {
                    int coins = (used >> m & 1) == 1 ? 0 : crew.coinsAtMost(row[m], m);
                    if (coins > top) {
                        top = coins;
                        who = m;
                    }
                }
                used |= 1 << who;
                sum += top;
            }
            return sum;
        }
    }

    /** MATES: looks through all ways to put MEN two and two, the first by their mates first. */
    private static final class Matcher {
        int most;
        final int[] best = new int[MEN_MOST];
        private final int[] mate = new int[MEN_MOST];

        void searches(Crew crew) {
            most = -1;
            Arrays.fill(mate, NONE);
            looks(crew, 0, 0);
        }

        private void looks(Crew crew, int m, int sum) {
            if (m >= crew.size || m >= MEN_MOST) {
                takes(sum);
                return;
            }
            // alone, or the mate of one ahead of him
            looks(crew, m + 1, sum);
            if (mate[m] != NONE) {
                return;
            }
            for (int other = m + 1; other < crew.size; other++) {
                if (mate[other] == NONE) {
                    mate[m] = other;
                    mate[other] = m;
                    looks(crew, m + 1, sum + crew.beside[m][other]);
                    mate[m] = NONE;
                    mate[other] = NONE;
                }
            }
        }

        private void takes(int sum) {
            if (sum > most) {
                most = sum;
                System.arraycopy(mate, 0, best, 0, MEN_MOST);
            }
        }
    }

    /** The KIND over all others; each KIND counts for THE TRACE how often its bodies were asked. */
    private static class Lump {
        long asked;

        int worth(Crew crew, Now now, int m) {
            asked += 1;
            return now.sorry[m] / 2;
        }
    }

    private static class Sigh extends Lump {
        int worth(Crew crew, Now now, int m) {
            asked += 10;
            return super.worth(crew, now, m) + crew.grows[m];
        }
    }

    private static class Ring extends Lump {
        int worth(Crew crew, Now now, int m) {
            asked += 100;
            return super.worth(crew, now, m) - now.heap[m];
        }
    }

    private static final class Salt extends Sigh {
        int worth(Crew crew, Now now, int m) {
            asked += 1000;
            return super.worth(crew, now, m) * 2;
        }
    }

    private static final class Seam extends Ring {
        int worth(Crew crew, Now now, int m) {
            asked += 10000;
            return super.worth(crew, now, m) + crew.pullOf(m, (1 << crew.size) - 1);
        }
    }

    private static final class Dust extends Lump {
        int worth(Crew crew, Now now, int m) {
            asked += 100000;
            return super.worth(crew, now, m) + now.week;
        }
    }
}
