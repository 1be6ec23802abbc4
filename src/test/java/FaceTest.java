import java.lang.reflect.Constructor;
import java.lang.reflect.Field;
import java.lang.reflect.Method;
import java.lang.reflect.Modifier;
import java.util.Set;
import java.util.TreeSet;

/** The public face, and promise 1: a new object. */
public final class FaceTest {
    private static final Set<String> METHODS = Set.of(
            "int type(int)", "int clear()", "int room()", "int phone(int,int)", "int call(int,int)",
            "int dark(int)", "int puts(int)", "int turn()", "int lends(int,int)", "int undo()", "int now(int)",
            "int plan(int,int)", "int fullBy(int,int)", "int latest(int,int)", "int says(int,int,int,int)",
            "int forget()", "int could(int,int)", "int liars()", "long odds(int,int,int,int,int)",
            "int rate(int,int)", "int keep(int)", "int back(int)", "int count(int)", "long trace()");

    private static String shape(Method m) {
        StringBuilder s = new StringBuilder(m.getReturnType().getName() + " " + m.getName() + "(");
        for (int i = 0; i < m.getParameterCount(); i++) {
            s.append(i == 0 ? "" : ",").append(m.getParameterTypes()[i].getName());
        }
        return s.append(")").toString();
    }

    private static boolean isSeen(int modifiers) {
        return !Modifier.isPrivate(modifiers);
    }

    private static void face() {
        Set<String> seen = new TreeSet<>();
        for (Method m : OneSocket.class.getDeclaredMethods()) {
            if (isSeen(m.getModifiers()) && !m.isSynthetic()) {
                seen.add(shape(m));
                Due.due(m + " is public and no static one",
                        m.getModifiers() & (Modifier.PUBLIC | Modifier.STATIC), Modifier.PUBLIC);
            }
        }
        Due.due("methods " + seen, seen.equals(METHODS) ? 1 : 0, 1);
        Set<String> fields = new TreeSet<>();
        for (Field f : OneSocket.class.getDeclaredFields()) {
            if (isSeen(f.getModifiers())) {
                fields.add(f.getName());
                Due.due(f + " is a constant", f.getModifiers(), Modifier.PUBLIC | Modifier.STATIC | Modifier.FINAL);
            }
        }
        Due.due("constants " + fields, fields.equals(Set.of("BAD", "STATE", "FULL", "NONE", "NO")) ? 1 : 0, 1);
        Constructor<?>[] made = OneSocket.class.getDeclaredConstructors();
        Due.due("constructors", made.length, 1);
        Due.due("constructor's parameters", made[0].getParameterCount(), 0);
        Due.due("class is public and final", OneSocket.class.getModifiers(), Modifier.PUBLIC | Modifier.FINAL);
    }

    private static void constants() {
        Due.due("BAD", OneSocket.BAD, -1);
        Due.due("STATE", OneSocket.STATE, -2);
        Due.due("FULL", OneSocket.FULL, -3);
        Due.due("NONE", OneSocket.NONE, -9);
        Due.due("NO", OneSocket.NO, -1000000);
    }

    private static void newObject() {
        OneSocket x = new OneSocket();
        int[] counts = {0, 1, 0, 0, 0, 0};
        for (int what = 0; what < counts.length; what++) {
            Due.due("new: count(" + what + ")", x.count(what), counts[what]);
        }
        int[] nows = {0, 0, 0, 0, 0, 0, -9, 0};
        for (int what = 0; what < nows.length; what++) {
            Due.due("new: now(" + what + ")", x.now(what), nows[what]);
        }
        Due.due("new: phone(0, 0)", x.phone(0, 0), -1);
        Due.due("new: call(0, 0)", x.call(0, 0), -1);
        Due.due("new: dark(0)", x.dark(0), 0);
        Due.due("new: puts(1)", x.puts(1), -1);
        Due.due("new: lends(0, 1)", x.lends(0, 1), -1);
        Due.due("new: undo()", x.undo(), -2);
        Due.due("new: plan(4, 0)", x.plan(4, 0), 0);
        Due.due("new: plan(4, 6)", x.plan(4, 6), 0);
        Due.due("new: fullBy(0, 0)", x.fullBy(0, 0), -1);
        Due.due("new: latest(0, 0)", x.latest(0, 0), -1);
        Due.due("new: says(0, 0, 1, 0)", x.says(0, 0, 1, 0), -1);
        Due.due("new: forget()", x.forget(), 0);
        Due.due("new: could(0, 0)", x.could(0, 0), -1);
        Due.due("new: liars()", x.liars(), 0);
        Due.due("new: odds(0, 0, 0, 0, 0)", x.odds(0, 0, 0, 0, 0), -1);
        Due.due("new: rate(0, 0)", x.rate(0, 0), -1000000);
        Due.due("new: back(0)", x.back(0), -2);
        Due.due("new: back(1)", x.back(1), -2);
        Due.due("new: trace()", x.trace(), 0);
        Due.due("new: clear()", x.clear(), 0);
        Due.due("new: room()", x.room(), 0);
        Due.due("new: turn()", x.turn(), 0);
    }

    public static void main(String[] args) {
        face();
        constants();
        newObject();
        Due.end("FaceTest");
    }
}
