import java.lang.management.ManagementFactory;
import java.lang.reflect.Array;
import java.lang.reflect.Field;
import java.lang.reflect.Modifier;
import java.util.ArrayDeque;
import java.util.Collections;
import java.util.IdentityHashMap;
import java.util.Set;

/**
 * All calls of a run live in one room of some 600,000 objects and 7.3 million fields and elements: what an
 * object takes at most is counted, and that its dearest calls make nothing anew.
 */
public final class RoomTest {
    static long objects;
    static long elements;

    public static void main(String[] args) throws ReflectiveOperationException {
        PromisePlatform p = new PromisePlatform();
        measure(p);
        System.out.println("a new one: " + objects + " objects, " + elements + " fields and elements");
        prepare(p);
        measure(p);
        System.out.println("behind a deep search: " + objects + " objects, " + elements + " fields and elements");
        boolean fits = objects < 60000 && elements < 1000000;
        for (int i = 0; i < 20; i++) dearCalls(p);
        long before = bytesMade();
        for (int i = 0; i < 100; i++) dearCalls(p);
        long bytes = bytesMade() - before;
        System.out.println("100 searches, transactions, recovers made " + bytes + " bytes anew");
        if (!fits || bytes > 100000) System.exit(1);
    }

    /** What this thread made so far; always 0 on a Java machine that does not tell. */
    static long bytesMade() {
        try {
            Class<?> bean = Class.forName("com.sun.management.ThreadMXBean");
            return (long) bean.getMethod("getThreadAllocatedBytes", long.class)
                    .invoke(ManagementFactory.getThreadMXBean(), Thread.currentThread().getId());
        } catch (ReflectiveOperationException | RuntimeException none) {
            return 0;
        }
    }

    static void feed(PromisePlatform p, String text) {
        byte[] b = java.util.Arrays.copyOf(text.getBytes(), (text.length() + 19) / 20 * 20);
        java.nio.ByteBuffer in = java.nio.ByteBuffer.wrap(b);
        while (in.hasRemaining()) p.feed(in.getInt(), in.getInt(), in.getInt(), in.getInt(), in.getInt());
        p.trim(text.length());
    }

    static void prepare(PromisePlatform p) {
        StringBuilder whens = new StringBuilder();
        for (int i = 1; i <= 99; i++) whens.append("when [] ").append(i).append(' ');
        feed(p, whens + "close");
        p.keep(0);
        p.look(0, true, 31, 400);
        String choice = "when [case choice x ada [1 2 3 4 5 6 7 8] let y mul 99999999999 div 123456789012345678901234567890 start ";
        feed(p, choice.repeat(5) + "close" + "] 9 close".repeat(5));
        p.keep(1);
        p.begin(1, 1, 0);
        feed(p, "77");
        p.mint(Check.n("ada"), Check.n("gold"));
    }

    static void dearCalls(PromisePlatform p) {
        p.look(1, false, 1, 400);
        p.look(0, true, 31, 400);
        p.print(0);
        p.total(Check.n("gold"), 2);
        p.feed(0x63686f69, 0x63652078, 0x20616461, 0x20392020, 0x20202020);
        p.transact(1, 0, 0);
        p.recover();
    }

    static void measure(Object root) throws IllegalAccessException {
        objects = 0;
        elements = 0;
        Set<Object> seen = Collections.newSetFromMap(new IdentityHashMap<>());
        ArrayDeque<Object> open = new ArrayDeque<>();
        open.add(root);
        seen.add(root);
        while (!open.isEmpty()) {
            Object o = open.remove();
            objects++;
            if (o.getClass().isArray()) {
                elements += Array.getLength(o);
                if (o instanceof Object[] row) for (Object part : row) if (part != null && seen.add(part)) open.add(part);
                continue;
            }
            for (Field f : o.getClass().getDeclaredFields()) {
                if (Modifier.isStatic(f.getModifiers())) continue;
                elements++;
                f.setAccessible(true);
                Object part = f.getType().isPrimitive() ? null : f.get(o);
                if (part != null && seen.add(part)) open.add(part);
            }
        }
    }
}
