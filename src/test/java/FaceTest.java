import java.lang.management.ManagementFactory;
import java.lang.reflect.Constructor;
import java.lang.reflect.Field;
import java.lang.reflect.Method;
import java.lang.reflect.Modifier;
import java.util.Arrays;
import java.util.TreeSet;

/** "The public face", rule 1 of LANGUAGE.md, and that calls make next to no objects. */
public final class FaceTest {
    private static final String[] FACE = {
        "int feed(int, int, int, int, int)", "int load(int) I", "int errorPosition()", "int size(int) N",
        "int boat(int, int) N", "int drain(int, int) N", "int tap(int, int) N", "int soap(int, int) N",
        "int boatAt(int, int) N", "int afloat(int) N", "int ended(int, int) N", "float flow(int, int, boolean) N",
        "int pushOn(int, boolean) N", "int strongest()", "int calm(int, int, int) N I", "int nearest(int) N",
        "int softest()", "int driesOut(int) N", "int tow(int, int, int) N", "int towStep(int, int, int) N",
        "int endsIn(int) N", "int emptyIn()", "int boatIn(int, int, int) N I", "int afloatIn(int) I",
        "int rescue(int, int) N I", "int refuge(int) N", "int plug()", "double softness()", "float afloatShare()",
        "int addBoat(int, int, int, int) N I", "int carry(int, int, int) N", "int pull(int, int, int, int) N I",
        "int blow(int, int, int) N I", "int dry(int) N", "int setDrain(int, int) N I", "int setTap(int, int) N I",
        "int dropSoap(int, int, int) N I", "int wipe(int, int) N", "int setPush(int) I", "int setWind(int, int) I",
        "int setLevel(int) I", "int turn(int) I", "int format(int) N", "int formattedByte(int)", "int undoCount()",
        "int undo()", "void saveSnapshot()", "boolean restoreSnapshot()", "int query(int) I"};

    public static void main(String[] args) {
        face();
        names();
        objects();
        Check.end();
    }

    private static String signature(Method m) {
        StringBuilder text = new StringBuilder(m.getReturnType().getName() + " " + m.getName() + "(");
        for (int i = 0; i < m.getParameterCount(); i++) {
            text.append(i > 0 ? ", " : "").append(m.getParameterTypes()[i].getName());
        }
        text.append(")");
        for (Class<?> e : m.getExceptionTypes()) {
            text.append(e == IllegalArgumentException.class ? " I"
                    : e == java.util.NoSuchElementException.class ? " N" : " " + e.getName());
        }
        return text.toString();
    }

    private static void face() {
        Check.part("the public face");
        Check.due("modifiers", BathBoats.class.getModifiers(), Modifier.PUBLIC | Modifier.FINAL);
        TreeSet<String> methods = new TreeSet<>();
        for (Method m : BathBoats.class.getDeclaredMethods()) {
            if (!Modifier.isPrivate(m.getModifiers()) && !m.isSynthetic()) {
                methods.add(signature(m));
                Check.due(m.getName() + " is public and no more", m.getModifiers(), Modifier.PUBLIC);
            }
        }
        Check.due("methods", methods, new TreeSet<>(Arrays.asList(FACE)));
        TreeSet<String> fields = new TreeSet<>();
        for (Field f : BathBoats.class.getDeclaredFields()) {
            if (!Modifier.isPrivate(f.getModifiers())) {
                fields.add(Modifier.toString(f.getModifiers()) + " " + f.getType() + " " + f.getName());
            }
        }
        Check.due("constants", fields.toString(), "[public static final int HIDDEN, public static final int NONE]");
        Check.due("constructors", Arrays.toString(BathBoats.class.getDeclaredConstructors()), "[public BathBoats()]");
        for (Class<?> c : BathBoats.class.getDeclaredClasses()) {
            Check.due(c.getName() + " is static and not public",
                    Modifier.isStatic(c.getModifiers()) && !Modifier.isPublic(c.getModifiers()), true);
        }
    }

    private static void names() {
        Check.part("rule 1");
        TreeSet<String> publicNames = new TreeSet<>();
        for (String signature : FACE) {
            publicNames.add(signature.substring(signature.indexOf(' ') + 1, signature.indexOf('(')));
        }
        for (Class<?> c : BathBoats.class.getDeclaredClasses()) {
            for (Method m : c.getDeclaredMethods()) {
                Check.due(c.getName() + "." + m.getName() + " bears a public name", publicNames.contains(m.getName()), false);
            }
            for (Constructor<?> k : c.getDeclaredConstructors()) {
                Check.due(c.getName() + " has few parameters", k.getParameterCount() <= 7, true);
            }
        }
        for (Method m : BathBoats.class.getDeclaredMethods()) {
            if (Modifier.isPrivate(m.getModifiers())) {
                Check.due(m.getName() + " bears a public name", publicNames.contains(m.getName()), false);
            }
        }
    }

    /** All calls of a run live in one room, so the dearest calls may make no objects. */
    private static void objects() {
        Check.part("objects");
        if (!(ManagementFactory.getThreadMXBean() instanceof com.sun.management.ThreadMXBean)) {
            return;
        }
        com.sun.management.ThreadMXBean meter = (com.sun.management.ThreadMXBean) ManagementFactory.getThreadMXBean();
        long id = Thread.currentThread().getId();
        BathBoats x = Check.bath("bath 10 10 level 900 push 3;drain 3 3 9 9;tap 6 6 9;boat 1 1 3 30;boat 8 8 70 900;"
                + "soap 5 5 90;");
        String query = "many x = 1 and (y < 3 or not soap > 2)";
        long before = 0;
        for (int round = 0; round < 3; round++) {
            before = meter.getThreadAllocatedBytes(id);
            x.rescue(0, 50);
            x.refuge(0);
            x.plug();
            x.endsIn(1);
            x.tow(1, 0, 0);
            x.pull(1, 7, 7, 99);
            x.calm(0, 0, 99);
            x.turn(1);
            x.undo();
            x.undo();
            x.saveSnapshot();
            x.restoreSnapshot();
            x.format(0);
            x.feed(0x6d616e79, 0x20782020, 0x3d203120, 0x20202020, 0x20202020);
            x.query(20);
        }
        Check.due("query " + query, Check.query(x, query), 1);
        Check.due("bytes made by a round of calls are few", meter.getThreadAllocatedBytes(id) - before < 20000, true);
    }
}
