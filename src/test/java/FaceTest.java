import java.lang.reflect.Constructor;
import java.lang.reflect.Field;
import java.lang.reflect.Method;
import java.lang.reflect.Modifier;
import java.util.Arrays;
import java.util.Set;
import java.util.TreeSet;

/** The public face as a whole, and what calls make (LANGUAGE.md, rules 1, 5 and 12). */
public final class FaceTest {
    private static final String FACE = "about(int) append(int) charter(int,int) clearText() crack(int,int) "
        + "crackYear(int,int) cut(int) dated(int,int) decides(int) die(int,int,int) errorPosition() hang(int,int) "
        + "ifCracked(int,int) ifHung(int,int) inYear(int) isPossible(int,int) leastBubbles(int,int) load() "
        + "ofDie(int,int) ofReign(int,int) ofSeal(int,int) older(int,int) onShelf(int,int) reign(int,int) "
        + "restore(int) runScript(int,long) save(int) seal(int,int,int,int,int) set(int,int) shelve(int,int,int) "
        + "show(int,int) simulate(long,int) sort(int) take(int) undo()";

    public static void main(String[] args) {
        members();
        fields();
        nested();
        callsMakeLittle();
        Check.end();
    }

    private static void members() {
        Set<String> found = new TreeSet<>();
        Set<String> names = new TreeSet<>();
        for (Method m : CordSeals.class.getDeclaredMethods()) {
            if (Modifier.isPublic(m.getModifiers())) {
                String types = Arrays.toString(m.getParameterTypes()).replaceAll("[\\[\\] ]", "");
                found.add(m.getName() + "(" + types + ")");
                names.add(m.getName());
                boolean flag = m.getName().equals("isPossible");
                Check.holds("type of " + m, m.getReturnType() == (flag ? boolean.class : int.class));
            }
        }
        Check.same("the face", String.join(" ", found), FACE);
        for (Method m : CordSeals.class.getDeclaredMethods()) {
            if (!Modifier.isPublic(m.getModifiers())) {
                Check.holds(m + " is private", Modifier.isPrivate(m.getModifiers()));
                Check.holds(m + " has a name of its own", !names.contains(m.getName()));
            }
        }
        Constructor<?>[] made = CordSeals.class.getDeclaredConstructors();
        Check.holds("one public constructor", made.length == 1 && Modifier.isPublic(made[0].getModifiers())
            && made[0].getParameterCount() == 0);
        Check.holds("a final class", Modifier.isFinal(CordSeals.class.getModifiers()));
    }

    private static void fields() {
        for (Field f : CordSeals.class.getDeclaredFields()) {
            int m = f.getModifiers();
            Check.holds(f + " is private", f.getName().equals("NONE") ? Modifier.isPublic(m) : Modifier.isPrivate(m));
            Check.holds(f + " is final if static", !Modifier.isStatic(m) || Modifier.isFinal(m));
        }
    }

    private static void nested() {
        Class<?>[] inside = CordSeals.class.getDeclaredClasses();
        Check.holds("at most twelve classes", inside.length <= 11);
        for (Class<?> c : inside) {
            Check.holds(c + " is static and not public",
                Modifier.isStatic(c.getModifiers()) && Modifier.isPrivate(c.getModifiers()));
            int own = 0;
            for (Field f : c.getDeclaredFields()) {
                own += Modifier.isStatic(f.getModifiers()) ? 0 : 1;
            }
            Check.holds(c + " has at most twenty fields", own <= 20);
        }
    }

    // The dearest calls, 512 times: rows are made in the constructor and used again.
    private static void callsMakeLittle() {
        CordSeals x = Sample.make();
        x.save(0);
        long bytes = made(() -> dearCalls(x));
        Check.holds("512 rounds of dear calls make " + bytes + " bytes", bytes < 100000);
        long one = made(CordSeals::new);
        Check.holds("one object makes " + one + " bytes", one < 100000);
    }

    private static void dearCalls(CordSeals x) {
        for (int i = 0; i < 512; i++) {
            x.simulate(i, 60);
            x.runScript(3, 200000208000800006L);
            x.leastBubbles(0, 0);
            x.decides(0);
            x.set(0, 10);
            x.sort(0);
            x.save(1);
            x.restore(0);
            x.errorPosition();
        }
    }

    private static long made(Runnable run) {
        com.sun.management.ThreadMXBean bean =
            (com.sun.management.ThreadMXBean) java.lang.management.ManagementFactory.getThreadMXBean();
        run.run();
        long before = bean.getCurrentThreadAllocatedBytes();
        run.run();
        return bean.getCurrentThreadAllocatedBytes() - before;
    }
}
