import java.lang.reflect.InvocationTargetException;
import java.lang.reflect.Method;
import java.util.Arrays;
import java.util.Random;

/** Long runs of calls, by a fixed seed, on RegretPit and on PlainPit: the answers must be alike, and none may throw. */
public final class PlainRunsTest {
    private static final int RUNS = 2500;
    private static final int CALLS = 512;
    private static final int TEXT_CALLS = 160;
    private static final Check check = new Check("PlainRunsTest");
    private static final Random random = new Random(20261118);
    private static Method[] face;
    private static Method[] plain;

    public static void main(String[] args) throws ReflectiveOperationException {
        face = Arrays.stream(RegretPit.class.getDeclaredMethods())
            .filter(m -> java.lang.reflect.Modifier.isPublic(m.getModifiers()))
            .sorted((a, b) -> a.getName().compareTo(b.getName())).toArray(Method[]::new);
        plain = new Method[face.length];
        for (int i = 0; i < face.length; i++) {
            plain[i] = PlainPit.class.getDeclaredMethod(face[i].getName(), face[i].getParameterTypes());
            plain[i].setAccessible(true);
        }
        for (int run = 0; run < RUNS; run++) {
            oneRun(run);
        }
        check.ends();
    }

    private static void oneRun(int run) throws ReflectiveOperationException {
        RegretPit x = new RegretPit();
        PlainPit y = new PlainPit();
        // six men make the plain plans too slow to be asked for often
        int men = run % 25 == 0 ? 6 : random.nextInt(5);
        int calls = 0;
        boolean wild = run % 5 == 0;
        while (calls < CALLS) {
            // no text is begun that would lead beyond the 512th call
            if (calls == 0 || calls < CALLS - TEXT_CALLS && random.nextInt(150) == 0) {
                if (random.nextBoolean()) {
                    calls++;
                    check.due("run " + run + ": clear", x.clear(), y.clear());
                }
                String text = text(men, random.nextInt(3) == 0);
                for (int i = 0; i < text.length(); i++, calls++) {
                    check.due("run " + run + ": type", x.type(text.charAt(i)), y.type(text.charAt(i)));
                }
                check.due("run " + run + ": pit of '" + text + "'", x.pit(), y.pit());
                check.due("run " + run + ": clear", x.clear(), y.clear());
                calls += 2;
            }
            calls++;
            int which = random.nextInt(face.length);
            String name = face[which].getName();
            boolean slow = name.equals("plan") || name.equals("mates");
            if (name.equals("clear") && !wild || slow && men > 4 && random.nextInt(40) != 0) {
                continue;
            }
            oneCall(run, which, x, y, men, wild);
        }
    }

    private static void oneCall(int run, int which, RegretPit x, PlainPit y, int men, boolean wild)
        throws ReflectiveOperationException {
        Object[] args = new Object[face[which].getParameterCount()];
        for (int i = 0; i < args.length; i++) {
            args[i] = number(face[which].getName(), i, men, wild);
        }
        if (men > 4 && face[which].getName().equals("plan") && random.nextInt(4) != 0) {
            args[0] = Math.min(2, (Integer) args[0]);
        }
        String call = "run " + run + ": " + face[which].getName() + Arrays.toString(args);
        try {
            Number got = (Number) face[which].invoke(x, args);
            Number want = (Number) plain[which].invoke(y, args);
            check.due(call, got.longValue(), want.longValue());
        } catch (InvocationTargetException e) {
            check.holds(call + " threw " + e.getCause(), false);
        }
    }

    /** Mostly such a number as the call asks for, one beyond it at times, and some that nothing asks for. */
    private static int number(String name, int place, int men, boolean wild) {
        if (wild && random.nextInt(12) == 0) {
            int[] far = {Integer.MIN_VALUE, Integer.MAX_VALUE, -1000, 1000, 64, 1 << 30, -2, 300};
            return far[random.nextInt(far.length)];
        }
        int shift = random.nextInt((1 << men) + 1);
        int man = random.nextInt(men + 1) - (random.nextInt(20) == 0 ? 1 : 0);
        switch (name + place) {
            case "week0", "yieldOf0", "lean0", "still0", "temper0", "lights0":
                return random.nextInt(3) == 0 ? shift : Integer.highestOneBit(shift) | 1;
            case "man0", "beside0", "beside1", "quarrel0", "quarrel1", "forgives0", "buys0", "still2", "mates0", "mark1":
                return man;
            case "quarrel2":
                return random.nextInt(53) - 1;
            case "lights1":
                return random.nextInt(60);
            case "lean1":
                return random.nextInt(4) == 0 ? random.nextInt(1001) : random.nextInt(30);
            case "still1":
                return random.nextInt(62);
            case "plan1":
                return random.nextInt(102) - 1;
            case "sold0":
                return random.nextInt(4) == 0 ? random.nextInt(1002) : random.nextInt(150);
            case "tells0":
                return random.nextInt(20);
            case "tells1":
                return random.nextInt(30);
            case "below0":
                return random.nextInt(13) - 1;
            case "type0":
                return random.nextInt(20) == 0 ? random.nextInt(258) - 1 : "mres;0 ".charAt(random.nextInt(7));
            default:
                return random.nextInt(8) - 1;
        }
    }

    private static String text(int men, boolean faulty) {
        StringBuilder b = new StringBuilder();
        for (int m = 0; m < men; m++) {
            b.append("m").append(random.nextInt(100)).append(' ').append(random.nextInt(10)).append(';');
        }
        for (int i = random.nextInt(8); i > 0 && men > 1; i--) {
            int a = random.nextInt(men);
            int c = (a + 1 + random.nextInt(men - 1)) % men;
            b.append(random.nextBoolean() ? "r" : "e ").append(a).append(' ').append(c).append(' ');
            b.append(random.nextInt(10)).append(" ;");
        }
        if (random.nextInt(4) != 0) {
            b.append("c").append(1 + random.nextInt(6)).append(';');
        }
        if (random.nextInt(4) != 0) {
            b.append("  s").append(random.nextInt(random.nextBoolean() ? 51 : 8)).append(';');
        }
        if (faulty && b.length() > 0) {
            spoils(b);
        }
        return b.toString();
    }

    private static void spoils(StringBuilder b) {
        int at = random.nextInt(b.length());
        String signs = "mrecs;0123456789 a{`/:\u0000\u00ff";
        switch (random.nextInt(3)) {
            case 0:
                b.setCharAt(at, signs.charAt(random.nextInt(signs.length())));
                break;
            case 1:
                b.insert(at, signs.charAt(random.nextInt(signs.length())));
                break;
            default:
                b.setLength(at);
                break;
        }
    }
}
