import java.lang.management.ManagementFactory;
import java.lang.reflect.Field;
import java.lang.reflect.Method;
import java.lang.reflect.Modifier;
import java.util.Set;
import java.util.TreeSet;

/** The public face is the document's and no more, and calls make no objects (all of a run live in one room). */
public final class FaceTest {
    private static final String[] METHODS = {
        "int write(int, long)", "int wipe()", "int fault()", "int maze()", "int make(int, int, long, int)",
        "int open(int, int)", "int hedge(int, int, boolean)", "int gates(int, int)", "int figure(int)",
        "int about(int)", "int part(int)", "int bridge(int, int)", "int must(int)", "int left(int)",
        "int far(int, int)", "long ways(int, int)", "int step(int, int, int)", "int widest(int)",
        "int hand(int, boolean)", "int handAt(int, boolean, int)", "int thread()", "int seen()",
        "long lost(int, int, boolean)", "long trees(int)", "int breaks(int, int)", "int shortCut()", "int bar()",
        "int chase(int, int, boolean)", "int same(int)", "int turn(int)", "int keep(int)", "int again(int)"};

    private FaceTest() {
    }

    public static void main(String[] args) throws ReflectiveOperationException {
        methods();
        fields();
        classes();
        room();
        Checks.end("FaceTest");
    }

    private static String told(Method m) {
        StringBuilder told = new StringBuilder(m.getReturnType().getSimpleName()).append(' ').append(m.getName());
        String between = "(";
        for (Class<?> type : m.getParameterTypes()) {
            told.append(between).append(type.getSimpleName());
            between = ", ";
        }
        return told.append(m.getParameterCount() == 0 ? "()" : ")").toString();
    }

    private static void methods() throws ReflectiveOperationException {
        Set<String> seen = new TreeSet<>();
        Set<String> names = new TreeSet<>();
        for (Method m : HedgeWays.class.getDeclaredMethods()) {
            if (Modifier.isPrivate(m.getModifiers())) continue;
            Checks.due(m + " is public and no more", m.getModifiers(), Modifier.PUBLIC);
            seen.add(told(m));
            names.add(m.getName());
        }
        Checks.due("the methods", seen.toString(), new TreeSet<>(Set.of(METHODS)).toString());
        for (Method m : HedgeWays.class.getDeclaredMethods()) {
            boolean twice = Modifier.isPrivate(m.getModifiers()) && names.contains(m.getName());
            Checks.due(m + " has a name of its own", twice ? 0 : 1, 1);
        }
        Checks.due("constructors", HedgeWays.class.getDeclaredConstructors().length, 1);
        Checks.due("public", HedgeWays.class.getDeclaredConstructor().getModifiers(), Modifier.PUBLIC);
    }

    private static void fields() {
        Set<String> open = new TreeSet<>();
        for (Field f : HedgeWays.class.getDeclaredFields()) {
            if (!Modifier.isPrivate(f.getModifiers())) open.add(f.getType() + " " + f.getName());
            if (Modifier.isStatic(f.getModifiers())) {
                Checks.due(f + " is final", f.getModifiers() & Modifier.FINAL, Modifier.FINAL);
            }
        }
        Checks.due("fields", open.toString(), "[int BAD, int FULL, int LATE, int NONE, int UNKNOWN]");
    }

    private static void classes() {
        int modifiers = HedgeWays.class.getModifiers();
        Checks.due("public final", modifiers, Modifier.PUBLIC | Modifier.FINAL);
        Class<?>[] inside = HedgeWays.class.getDeclaredClasses();
        Checks.due("few classes", inside.length <= 11 ? 1 : 0, 1);
        for (Class<?> c : inside) {
            Checks.due(c + " is static", c.getModifiers() & Modifier.STATIC, Modifier.STATIC);
            Checks.due(c + " is not open", c.getModifiers() & (Modifier.PUBLIC | Modifier.PROTECTED), 0);
        }
    }

    /** One call of each kind, over and over, on one object that has kept its mazes already. */
    private static long calls(HedgeWays h, int i) {
        int c = 10 * (i % 4) + i % 3;
        int d = 10 * (i % 3) + i % 4;
        boolean yes = i % 2 == 0;
        long sum = h.make(4, 4, i, i % 2) + h.keep(i % 2) + h.wipe() + h.write(8, 0x3131_3130L) + h.fault() + h.maze();
        sum += h.again(i % 2) + h.open(c, i % 4) + h.hedge(c, i % 4, yes) + h.gates(c, d) + h.figure(c);
        for (int what = -1; what < 15; what++) sum += h.about(what);
        sum += h.part(c) + h.bridge(c, i % 4) + h.must(c) + h.left(c) + h.far(c, d) + h.ways(c, d) + h.step(c, d, 3);
        sum += h.widest(c) + h.hand(i % 4, yes) + h.handAt(i % 4, yes, 99) + h.thread() + h.seen() + h.trees(c);
        sum += h.make(2, 4, i, 0) + h.lost(0, 12, yes) + h.breaks(0, 12) + h.shortCut() + h.bar();
        return sum + h.chase(0, 12, yes) + h.same(i % 8) + h.turn(i % 8);
    }

    private static void room() {
        com.sun.management.ThreadMXBean machine =
                (com.sun.management.ThreadMXBean) ManagementFactory.getThreadMXBean();
        long thread = Thread.currentThread().getId();
        HedgeWays h = new HedgeWays();
        long least = Long.MAX_VALUE;
        long sum = 0;
        for (int round = 0; round < 5; round++) {
            long before = machine.getThreadAllocatedBytes(thread);
            for (int i = 0; i < 100; i++) sum += calls(h, i);
            least = Math.min(least, machine.getThreadAllocatedBytes(thread) - before);
        }
        Checks.due("bytes made by 5700 calls, over 1000 (" + sum + ")", least > 1000 ? least : 0, 0);
    }
}
