import java.lang.reflect.Method;
import java.lang.reflect.Modifier;
import java.util.ArrayList;
import java.util.Arrays;
import java.util.List;
import java.util.Random;

/**
 * Every call with the least and greatest arguments, and those at the edges of what there is, in states of
 * all sorts: each answers what the model does, and throws nothing but what its own line of the document names.
 */
public final class ExtremesTest {
    static final int[] INTS = {Integer.MIN_VALUE, -2, -1, 0, 1, 2, 3, 4, 5, 7, 8, 15, 16, 31, 32, 255, 256, 400, 401, 16383, 16384, Integer.MAX_VALUE};
    static final long[] LONGS = {Long.MIN_VALUE, -1, 0, 1, 5, 9, 999999999999999L, 1000000000000000L, 1000000000000001L, Long.MAX_VALUE,
        Check.n("ada"), Check.n("bob"), Check.n("gold"), Check.n("to"), Check.n("abcdefgh"), 0x6100L, 0x0a61L};

    public static void main(String[] args) {
        List<Method> face = new ArrayList<>();
        for (Method m : PromisePlatform.class.getDeclaredMethods()) {
            if (Modifier.isPublic(m.getModifiers())) face.add(m);
        }
        face.sort((a, b) -> a.getName().compareTo(b.getName()));
        if (face.size() != 35) {
            Check.wrong++;
            System.out.println("the face has 35 methods, not " + face.size());
        }
        for (int seed = 0; seed < 60; seed++) run(face, new Random(seed));
        Check.finish();
    }

    static void run(List<Method> face, Random random) {
        Check c = new Check("extremes");
        c.mint("ada", "gold", 9).mint("bob", "oil", "1" + "0".repeat(299)).set("ada", 5).keep(0, "close").keep(15, "when [case deposit ada ada gold 1 assert false when [] "
                + "1000000000000000 close case choice ada bob [-1 1] when [] ?ada close] 9 close").is(0, "begin", 15, 15, 5L).is(0, "begin", 0, 0, 0L);
        for (int i = 0; i < 250; i++) {
            if (random.nextInt(5) == 0) c.text(new String[] {"1", "close", "deposit ada ada gold 1", "choice ada bob 1", "", "?", "notify"}[random.nextInt(7)]);
            if (random.nextInt(9) == 0) c.ask("recover");
            Method m = face.get(random.nextInt(face.size()));
            Object[] args = new Object[m.getParameterCount()];
            for (int a = 0; a < args.length; a++) {
                Class<?> type = m.getParameterTypes()[a];
                args[a] = type == int.class ? (Object) INTS[random.nextInt(INTS.length)]
                        : type == long.class ? (Object) LONGS[random.nextInt(LONGS.length)] : (Object) random.nextBoolean();
            }
            String answer = c.ask(m.getName(), args);
            if (answer.startsWith("throws.")) mayThrow(m, answer.substring(7), args);
        }
    }

    static void mayThrow(Method m, String name, Object[] args) {
        for (Class<?> told : m.getExceptionTypes()) {
            if (told.getSimpleName().equals(name)) return;
        }
        Check.wrong++;
        System.out.println(m.getName() + Arrays.toString(args) + " threw " + name);
    }
}
