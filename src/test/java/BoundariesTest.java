import java.lang.reflect.InvocationTargetException;
import java.lang.reflect.Method;
import java.util.Arrays;
import java.util.Comparator;
import java.util.TreeMap;

/**
 * The boundary cases, sentence by sentence: each static method of the classes below whose name begins with
 * part or promise and its number is a test of its own. Each part of 'Terms' and each promise must have one.
 */
public final class BoundariesTest {
    static final Class<?>[] TESTS = {Part1Boundaries.class, Part2Boundaries.class, Part3Boundaries.class, Part4Boundaries.class,
        Part5Boundaries.class, Part6Boundaries.class, Part7Boundaries.class, Promises1To6Boundaries.class,
        Promises7To11Boundaries.class, Promises12To20Boundaries.class, Promises21To24Boundaries.class,
        Promises25To30Boundaries.class, Promises31To36Boundaries.class};
    static final TreeMap<String, Integer> FOUND = new TreeMap<>();

    public static void main(String[] args) throws IllegalAccessException {
        int tests = 0;
        for (Class<?> c : TESTS) {
            Method[] methods = c.getDeclaredMethods();
            Arrays.sort(methods, Comparator.comparing(Method::getName));
            for (Method m : methods) {
                if (!m.getName().matches("(part|promise)[0-9]+[A-Z].*")) continue;
                FOUND.merge(m.getName().replaceFirst("([0-9]+).*", "$1"), 1, Integer::sum);
                run(m);
                tests++;
            }
        }
        for (int part = 1; part <= 7; part++) need("part" + part);
        for (int promise = 1; promise <= 36; promise++) need("promise" + promise);
        System.out.println(tests + " boundary tests");
        Check.finish();
    }

    static void run(Method test) throws IllegalAccessException {
        int before = Check.wrong;
        Check.current = test.getName();
        try {
            test.invoke(null);
        } catch (InvocationTargetException e) {
            Check.wrong++;
            e.getCause().printStackTrace(System.out);
        }
        if (Check.wrong != before) System.out.println("FAILED: " + test.getName());
    }

    static void need(String name) {
        if (FOUND.containsKey(name)) return;
        Check.wrong++;
        System.out.println("no boundary test of " + name);
    }
}
