import java.lang.reflect.Constructor;
import java.lang.reflect.Field;
import java.lang.reflect.Method;
import java.lang.reflect.Modifier;
import java.util.Set;
import java.util.TreeSet;

/** The class has the document's face, and nothing else of it can be seen from outside. */
public final class FaceTest {
    private static final String[] METHODS = {
        "int type(int)", "int clear()", "int pit()", "int man(int,int)", "int beside(int,int)", "int week(int)",
        "int quarrel(int,int,int)", "int forgives(int)", "int buys(int)", "int undo()", "int now(int)",
        "int yieldOf(int)", "int best(int)", "int plan(int,int,int)", "int lean(int,int)", "int still(int,int,int)",
        "int temper(int)", "int mates(int)", "int lights(int,int)", "int forget()", "int whose()", "int sold(int,int)",
        "int tells(int,int)", "int fit(int)", "int below(int,int,int)", "int mark(int,int)", "int keep(int)",
        "int back(int)", "int count(int)", "long trace()",
    };
    private static final Check check = new Check("FaceTest");

    public static void main(String[] args) throws IllegalAccessException {
        check.holds("the class is final", Modifier.isFinal(RegretPit.class.getModifiers()));
        check.holds("the class is public", Modifier.isPublic(RegretPit.class.getModifiers()));
        methods();
        constants();
        constructors();
        nested();
        check.ends();
    }

    private static String headOf(Method m) {
        StringBuilder b = new StringBuilder(m.getReturnType().getName()).append(' ').append(m.getName()).append('(');
        for (int i = 0; i < m.getParameterCount(); i++) {
            b.append(i > 0 ? "," : "").append(m.getParameterTypes()[i].getName());
        }
        return b.append(')').toString();
    }

    private static void methods() {
        Set<String> want = new TreeSet<>(Set.of(METHODS));
        Set<String> names = new TreeSet<>();
        for (String head : METHODS) {
            names.add(head.substring(head.indexOf(' ') + 1, head.indexOf('(')));
        }
        for (Method m : RegretPit.class.getDeclaredMethods()) {
            if (Modifier.isPublic(m.getModifiers())) {
                check.holds("asked for: " + headOf(m), want.remove(headOf(m)));
            } else if (!m.isSynthetic()) {
                check.holds("private: " + headOf(m), Modifier.isPrivate(m.getModifiers()));
                check.holds("a name of its own: " + headOf(m), !names.contains(m.getName()));
            }
        }
        check.due("methods that lack: " + want, want.size(), 0);
    }

    private static void constants() throws IllegalAccessException {
        String[] names = {"BAD", "STATE", "FULL", "NONE", "NO"};
        int[] values = {-1, -2, -3, -9, -1000000};
        int found = 0;
        for (Field f : RegretPit.class.getDeclaredFields()) {
            int how = f.getModifiers();
            check.holds("public or private: " + f.getName(), Modifier.isPublic(how) || Modifier.isPrivate(how));
            check.holds("a static field is final: " + f.getName(), !Modifier.isStatic(how) || Modifier.isFinal(how));
            for (int i = 0; Modifier.isPublic(how) && i < names.length; i++) {
                if (names[i].equals(f.getName())) {
                    found++;
                    check.due(names[i], f.getInt(null), values[i]);
                }
            }
        }
        check.due("constants", found, names.length);
        check.due("public fields", RegretPit.class.getFields().length, names.length);
    }

    private static void constructors() {
        Constructor<?>[] all = RegretPit.class.getDeclaredConstructors();
        check.due("one constructor", all.length, 1);
        check.holds("it is public", Modifier.isPublic(all[0].getModifiers()));
        check.due("it takes nothing", all[0].getParameterCount(), 0);
    }

    private static void nested() {
        Class<?>[] all = RegretPit.class.getDeclaredClasses();
        check.holds("some twelve classes", all.length + 1 <= 12);
        for (Class<?> c : all) {
            int how = c.getModifiers();
            check.holds("static: " + c, Modifier.isStatic(how));
            check.holds("not seen from outside: " + c, !Modifier.isPublic(how) && !Modifier.isProtected(how));
            int fields = 0;
            for (Field f : c.getDeclaredFields()) {
                fields += Modifier.isStatic(f.getModifiers()) ? 0 : 1;
            }
            check.holds("some twenty fields: " + c, fields <= 20);
        }
    }
}
