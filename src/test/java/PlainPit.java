import java.math.BigInteger;
import java.util.ArrayList;
import java.util.Arrays;
import java.util.HashSet;
import java.util.List;
import java.util.regex.Matcher;
import java.util.regex.Pattern;

/** The document once more, written as plainly as can be and without any care for speed, to compare with. */
final class PlainPit {
    private static final int BAD = -1, STATE = -2, FULL = -3, NONE = -9, NO = -1000000;
    private static final Pattern TOKEN = Pattern.compile("[a-z]+|[0-9]+|;", Pattern.DOTALL);

    private record Man(int sorry, int lump) { }

    private record Moment(List<Man> men, int brought, int week) { }

    private record Image(Moment moment, List<Moment> past) { }

    private record Told(List<int[]> men, int[][] beside, int cage, int shale, int items) { }

    private record Clue(int a, int b) { }

    private final StringBuilder text = new StringBuilder();
    private Told pit = new Told(List.of(), new int[6][6], 3, 5, 0);
    private Moment moment = new Moment(List.of(), 0, 0);
    private List<Moment> past = new ArrayList<>();
    private final Image[] images = new Image[2];
    private final List<Clue> lit = new ArrayList<>();
    private final List<Clue> laws = new ArrayList<>();
    private long trace;

    int type(int c) {
        if (c < 0 || c > 255) {
            return BAD;
        }
        if (text.length() == 150) {
            return FULL;
        }
        return text.append((char) c).length();
    }

    int clear() {
        int n = text.length();
        text.setLength(0);
        return n;
    }

    private static final class Fault extends RuntimeException {
        final int place;

        Fault(int place) {
            this.place = place;
        }
    }

    int pit() {
        try {
            pit = new Parse(text.toString()).all();
        } catch (Fault f) {
            return -10 - f.place;
        }
        text.setLength(0);
        List<Man> men = new ArrayList<>();
        for (int[] m : pit.men) {
            men.add(new Man(m[0], 0));
        }
        moment = new Moment(men, 0, 0);
        past = new ArrayList<>();
        images[0] = null;
        images[1] = null;
        lit.clear();
        laws.clear();
        return pit.items;
    }

    /** By recursive descent; a token is looked at ahead of being taken. */
    private static final class Parse {
        final String text;
        int at;

        Parse(String text) {
            this.text = text;
        }

        String peek() {
            while (at < text.length() && text.charAt(at) == 32) {
                at++;
            }
            Matcher m = TOKEN.matcher(text).region(at, text.length());
            if (at == text.length() || !m.lookingAt()) {
                throw new Fault(at);
            }
            return m.group();
        }

        int number(int low, int high) {
            String t = peek();
            if (!t.matches("0|[1-9][0-9]?") || Integer.parseInt(t) < low || Integer.parseInt(t) > high) {
                throw new Fault(at);
            }
            at += t.length();
            return Integer.parseInt(t);
        }

        Told all() {
            List<int[]> men = new ArrayList<>();
            int[][] beside = new int[6][6];
            int cage = -1;
            int shale = -1;
            int items = 0;
            while (!text.substring(at).matches(" *")) {
                String t = peek();
                if (!List.of("m", "r", "e", "c", "s").contains(t) || t.equals("m") && men.size() == 6
                    || t.equals("c") && cage >= 0 || t.equals("s") && shale >= 0) {
                    throw new Fault(at);
                }
                at++;
                switch (t) {
                    case "m" -> men.add(new int[] {number(0, 99), number(0, 9)});
                    case "c" -> cage = number(1, 6);
                    case "s" -> shale = number(0, 50);
                    default -> two(t, men.size(), beside);
                }
                if (!peek().equals(";")) {
                    throw new Fault(at);
                }
                at++;
                items++;
            }
            return new Told(men, beside, cage < 0 ? 3 : cage, shale < 0 ? 5 : shale, items);
        }

        void two(String t, int men, int[][] beside) {
            int a = number(0, men - 1);
            peek();
            int place = at;
            int b = number(0, men - 1);
            if (a == b) {
                throw new Fault(place);
            }
            int n = number(0, 9) * (t.equals("e") ? -1 : 1);
            beside[a][b] = n;
            beside[b][a] = n;
        }
    }

    private boolean noMan(int m) {
        return m < 0 || m >= pit.men.size();
    }

    private boolean noShift(int s) {
        return s < 0 || s >= Math.pow(2, pit.men.size()) || Integer.bitCount(s) > pit.cage;
    }

    private static boolean in(int m, int shift) {
        return BigInteger.valueOf(shift).testBit(m);
    }

    int man(int m, int what) {
        if (noMan(m) || what < 0 || what > 2) {
            return BAD;
        }
        return new int[] {moment.men.get(m).sorry, pit.men.get(m)[1], moment.men.get(m).lump}[what];
    }

    int beside(int a, int b) {
        return noMan(a) || noMan(b) || a == b ? NO : pit.beside[a][b];
    }

    private int cut(Moment from, int m, int shift) {
        return reminded(from, m, shift) / 2;
    }

    private int reminded(Moment from, int m, int shift) {
        int s = from.men.get(m).sorry;
        for (int o = 0; o < pit.men.size(); o++) {
            if (o != m && in(o, shift)) {
                s += pit.beside[m][o];
            }
        }
        return Math.max(0, Math.min(999, s));
    }

    private Moment after(Moment from, int shift) {
        List<Man> men = new ArrayList<>();
        int brought = 0;
        for (int m = 0; m < pit.men.size(); m++) {
            Man man = from.men.get(m);
            if (!in(m, shift)) {
                men.add(new Man(Math.min(999, man.sorry + pit.men.get(m)[1]), man.lump));
                continue;
            }
            int cut = cut(from, m, shift);
            int coins = cut < pit.shale ? 0 : cut;
            men.add(new Man(reminded(from, m, shift) - cut, coins >= 1 ? coins : man.lump));
            brought += coins;
        }
        return new Moment(men, from.brought + brought, from.week + 1);
    }

    private int brings(Moment from, int shift) {
        return after(from, shift).brought - from.brought;
    }

    private void becomes(Moment next) {
        past.add(moment);
        if (past.size() > 10) {
            past.remove(0);
        }
        moment = new Moment(next.men, Math.min(999999, next.brought), next.week);
    }

    private Moment with(int m, Man man, int brought) {
        List<Man> men = new ArrayList<>(moment.men);
        men.set(m, man);
        return new Moment(men, brought, moment.week);
    }

    int week(int shift) {
        if (noShift(shift)) {
            return BAD;
        }
        if (moment.week == 300) {
            return STATE;
        }
        int answer = brings(moment, shift);
        becomes(after(moment, shift));
        return answer;
    }

    int quarrel(int a, int b, int n) {
        if (noMan(a) || noMan(b) || a == b || n < 1 || n > 50) {
            return BAD;
        }
        List<Man> men = new ArrayList<>(moment.men);
        for (int m : new int[] {a, b}) {
            men.set(m, new Man(Math.min(999, men.get(m).sorry + n), men.get(m).lump));
        }
        becomes(new Moment(men, moment.brought, moment.week));
        return men.get(a).sorry;
    }

    int forgives(int m) {
        if (noMan(m)) {
            return BAD;
        }
        int was = moment.men.get(m).sorry;
        becomes(with(m, new Man(0, moment.men.get(m).lump), moment.brought));
        return was;
    }

    int buys(int m) {
        if (noMan(m)) {
            return BAD;
        }
        Man man = moment.men.get(m);
        if (man.lump == 0 || man.sorry + man.lump > 999) {
            return STATE;
        }
        becomes(with(m, new Man(man.sorry + man.lump, 0), moment.brought - man.lump));
        return man.lump;
    }

    int undo() {
        if (past.isEmpty()) {
            return STATE;
        }
        moment = past.remove(past.size() - 1);
        return past.size();
    }

    int now(int what) {
        int sorry = moment.men.stream().mapToInt(Man::sorry).sum();
        int worth = moment.men.stream().mapToInt(Man::lump).sum();
        int pay = 0;
        while (!comeAll(pay)) {
            pay++;
        }
        return what < 0 || what > 4 ? BAD : new int[] {moment.week, moment.brought, sorry, worth, pay}[what];
    }

    private boolean comeAll(int pay) {
        return moment.men.stream().allMatch(m -> pay > m.sorry / 2);
    }

    int yieldOf(int shift) {
        return noShift(shift) ? BAD : brings(moment, shift);
    }

    int best(int what) {
        return what < 0 || what > 1 ? BAD : what == 0 ? plan(1, 0, 0) : plan(1, 0, -1);
    }

    int plan(int n, int v, int k) {
        if (n < 1 || n > 3 || v < 0 || v > 99 || k < -1 || k > 2) {
            return BAD;
        }
        if (k >= n) {
            return NONE;
        }
        int[] best = {-1, 0, 0, 0};
        rows(moment, n, v, new int[] {0, 0, 0}, 0, best);
        return best[k + 1];
    }

    private void rows(Moment at, int n, int v, int[] row, int depth, int[] best) {
        if (depth == n) {
            if (at.brought - moment.brought > best[0]) {
                best[0] = at.brought - moment.brought;
                System.arraycopy(row, 0, best, 1, 3);
            }
            return;
        }
        for (int s = 0; s < 64; s++) {
            if (noShift(s)) {
                continue;
            }
            Moment next = after(at, s);
            boolean held = true;
            for (int m = 0; m < pit.men.size(); m++) {
                held &= next.men.get(m).sorry >= v || moment.men.get(m).sorry < v;
            }
            if (held) {
                row[depth] = s;
                rows(next, n, v, row, depth + 1, best);
            }
        }
    }

    int lean(int shift, int v) {
        if (noShift(shift) || v < 1 || v > 999) {
            return BAD;
        }
        Moment at = moment;
        for (int w = 1; w <= 60; w++) {
            if (brings(at, shift) < v) {
                return w;
            }
            at = after(at, shift);
        }
        return NONE;
    }

    int still(int shift, int n, int m) {
        if (noShift(shift) || n < 0 || n > 60 || noMan(m)) {
            return BAD;
        }
        Moment at = moment;
        for (int w = 0; w < n; w++) {
            at = after(at, shift);
        }
        return at.men.get(m).sorry;
    }

    int temper(int shift) {
        if (noShift(shift)) {
            return NO;
        }
        int sum = 0;
        for (int a = 0; a < pit.men.size(); a++) {
            for (int b = a + 1; b < pit.men.size(); b++) {
                sum += in(a, shift) && in(b, shift) ? pit.beside[a][b] : 0;
            }
        }
        return sum;
    }

    /** All rows of mates (7 choices a man), those that are no matching thrown away, in their order. */
    int mates(int m) {
        if (m != -1 && noMan(m)) {
            return NO;
        }
        int n = pit.men.size();
        int most = Integer.MIN_VALUE;
        int[] best = null;
        for (int code = 0; code < Math.round(Math.pow(n + 1, n)); code++) {
            int[] mate = new int[n];
            for (int i = n - 1, c = code; i >= 0; i--, c /= n + 1) {
                mate[i] = c % (n + 1) - 1;
            }
            int sum = 0;
            boolean fine = true;
            for (int i = 0; i < n && fine; i++) {
                fine = mate[i] == -1 || mate[i] != i && mate[mate[i]] == i;
                sum += mate[i] > i ? pit.beside[i][mate[i]] : 0;
            }
            if (fine && sum > most) {
                most = sum;
                best = mate;
            }
        }
        return m == -1 ? most : best[m] == -1 ? NONE : best[m];
    }

    int lights(int shift, int n) {
        if (noShift(shift) || shift == 0 || n < 0 || n > 499) {
            return BAD;
        }
        if (lit.size() == 6) {
            return FULL;
        }
        lit.add(new Clue(shift, n));
        return lit.size();
    }

    int forget() {
        int n = lit.size() + laws.size();
        lit.clear();
        laws.clear();
        return n;
    }

    int whose() {
        int bits = 0;
        for (int i = 0; i < pit.men.size(); i++) {
            int m = i;
            if (lit.stream().allMatch(c -> in(m, c.a) && cut(moment, m, c.a) == c.b)) {
                bits += 1 << m;
            }
        }
        return bits;
    }

    int sold(int n, int what) {
        if (n < 0 || n > 999 || what < 0 || what > 1) {
            return BAD;
        }
        int[] best = {-1, 0};
        for (int bits = 0; bits < 1 << pit.men.size(); bits++) {
            int sum = 0;
            for (int m = 0; m < pit.men.size(); m++) {
                sum += in(m, bits) ? moment.men.get(m).lump : 0;
            }
            if (sum <= n && sum > best[0]) {
                best = new int[] {sum, bits};
            }
        }
        return best[what];
    }

    int tells(int x, int y) {
        if (x < 0 || x > 99 || y < 0 || y > 299) {
            return BAD;
        }
        if (laws.size() == 6) {
            return FULL;
        }
        laws.add(new Clue(x, y));
        return laws.size();
    }

    int fit(int what) {
        if (what < 0 || what > 2) {
            return BAD;
        }
        List<int[]> fit = new ArrayList<>();
        for (int a = 0; a < 10; a++) {
            for (int b = 0; b < 10; b++) {
                int[] ab = {a, b};
                if (laws.stream().allMatch(c -> c.a + ab[0] * c.a / 10 + ab[1] == c.b)) {
                    fit.add(ab);
                }
            }
        }
        if (what == 0) {
            return fit.size();
        }
        if (fit.isEmpty()) {
            return NONE;
        }
        return what == 1 ? fit.get(0)[0] * 10 + fit.get(0)[1] : telling(fit);
    }

    private static int telling(List<int[]> fit) {
        int[] unlike = new int[100];
        for (int x = 0; x < 100; x++) {
            HashSet<Integer> ys = new HashSet<>();
            for (int[] ab : fit) {
                ys.add(x + ab[0] * x / 10 + ab[1]);
            }
            unlike[x] = ys.size();
        }
        int most = Arrays.stream(unlike).max().getAsInt();
        int x = 0;
        while (unlike[x] != most) {
            x++;
        }
        return x;
    }

    int below(int x, int n, int what) {
        if (x < 0 || x > 10 || n < 0 || n > 4 || what < 0 || what > 1) {
            return BAD;
        }
        BigInteger upper = BigInteger.valueOf(now(2)).multiply(BigInteger.valueOf(10 - x).pow(n));
        BigInteger lower = BigInteger.TEN.pow(n);
        BigInteger g = upper.gcd(lower);
        return (what == 0 ? upper : lower).divide(g).intValueExact();
    }

    int mark(int kind, int m) {
        if (kind < 0 || kind > 5 || noMan(m)) {
            return NO;
        }
        int lump = moment.men.get(m).sorry / 2;
        int grows = pit.men.get(m)[1];
        int ring = lump - moment.men.get(m).lump;
        trace += new int[] {1, 11, 101, 1011, 10101, 100001}[kind];
        int all = Arrays.stream(pit.beside[m]).sum();
        return new int[] {lump, lump + grows, ring, (lump + grows) * 2, ring + all, lump + moment.week}[kind];
    }

    int keep(int image) {
        if (image != 0 && image != 1) {
            return BAD;
        }
        images[image] = new Image(moment, List.copyOf(past));
        return moment.week;
    }

    int back(int image) {
        if (image != 0 && image != 1) {
            return BAD;
        }
        if (images[image] == null) {
            return STATE;
        }
        moment = images[image].moment;
        past = new ArrayList<>(images[image].past);
        return moment.week;
    }

    int count(int what) {
        int[] all = {pit.men.size(), pit.cage, pit.shale, lit.size(), laws.size(), past.size(), text.length()};
        return what < 0 || what > 6 ? BAD : all[what];
    }

    long trace() {
        return trace;
    }
}
