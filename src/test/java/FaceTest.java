import java.lang.reflect.Constructor;
import java.lang.reflect.Field;
import java.lang.reflect.Method;
import java.lang.reflect.Modifier;
import java.util.ArrayList;
import java.util.Arrays;
import java.util.List;
import java.util.TreeSet;

/** 'The public face': every constant, constructor and method of the document, and no other member that can be seen. */
public final class FaceTest {
    static final String PLACE = "IndexOutOfBounds";
    static final String ARGUMENT = "IllegalArgument";
    static final String STATE = "IllegalState";

    /** Each method's answer, name and parameters; what it throws stands behind. */
    static final String[][] FACE = {
        {"int feed(int,int,int,int,int)", STATE, ARGUMENT}, {"int trim(int)", STATE, ARGUMENT}, {"int size()", STATE},
        {"long word(int)", STATE}, {"int show()", STATE},
        {"int keep(int)", PLACE, STATE}, {"int fault(boolean)"}, {"int drop(int)", PLACE, STATE}, {"int print(int)", PLACE, STATE},
        {"long about(int,int)", PLACE, ARGUMENT, STATE},
        {"int parameter(long)", ARGUMENT, STATE}, {"int forget()", STATE}, {"int begin(int,int,long)", PLACE, ARGUMENT, STATE},
        {"int end(int)", PLACE, STATE}, {"int transact(int,long,long)", PLACE, STATE}, {"int rest(int)", PLACE, STATE},
        {"long state(int,int)", PLACE, ARGUMENT, STATE}, {"int entry(int,int,int)", PLACE, ARGUMENT, STATE},
        {"long name(int,int,int,boolean)", PLACE, ARGUMENT, STATE},
        {"int count(int)", ARGUMENT, STATE}, {"long payment(int,int)", PLACE, ARGUMENT, STATE}, {"int amount(int,boolean)", PLACE, STATE},
        {"long warning(int,int)", PLACE, ARGUMENT, STATE},
        {"int mint(long,long)", ARGUMENT, STATE}, {"int wallet(long,long)", ARGUMENT, STATE}, {"int total(long,int)", ARGUMENT, STATE},
        {"int wallets()", STATE},
        {"int look(int,boolean,int,int)", PLACE, ARGUMENT, STATE}, {"int tries()", STATE},
        {"void fuse(int)", ARGUMENT, STATE}, {"int peek(int)", PLACE}, {"int poke(int,int)", PLACE, ARGUMENT, STATE}, {"void cut()", STATE},
        {"int recover()"}, {"int told(int)", ARGUMENT},
    };

    public static void main(String[] args) {
        Check.current = "the public face";
        Class<?> c = PromisePlatform.class;
        same("the class", Modifier.toString(c.getModifiers()), "public final");
        same("what it extends", c.getSuperclass().getSimpleName() + c.getInterfaces().length, "Object0");
        methods(c);
        constants(c);
        constructors(c);
        for (Class<?> inside : c.getDeclaredClasses()) {
            Check.so(Modifier.isStatic(inside.getModifiers()), inside.getSimpleName() + " is static");
            Check.so(!Modifier.isPublic(inside.getModifiers()) && !Modifier.isProtected(inside.getModifiers()), inside.getSimpleName() + " is not public");
        }
        Check.finish();
    }

    static void methods(Class<?> c) {
        TreeSet<String> due = new TreeSet<>();
        for (String[] told : FACE) {
            due.add("public " + told[0] + " throws " + Arrays.asList(told).subList(1, told.length));
        }
        TreeSet<String> got = new TreeSet<>();
        for (Method m : c.getDeclaredMethods()) {
            if (!Modifier.isPrivate(m.getModifiers()) && !m.isSynthetic()) got.add(line(m));
        }
        same("methods", got.toString(), due.toString());
    }

    static String line(Method m) {
        List<String> parameters = new ArrayList<>();
        for (Class<?> p : m.getParameterTypes()) parameters.add(p.getSimpleName());
        List<String> exceptions = new ArrayList<>();
        for (Class<?> e : m.getExceptionTypes()) exceptions.add(e.getSimpleName().replace("Exception", ""));
        return Modifier.toString(m.getModifiers()) + " " + m.getReturnType().getSimpleName() + " " + m.getName() + "(" + String.join(",", parameters) + ") throws " + exceptions;
    }

    static void constants(Class<?> c) {
        for (Field f : c.getDeclaredFields()) {
            if (Modifier.isPrivate(f.getModifiers()) || f.isSynthetic()) continue;
            same("fields", Modifier.toString(f.getModifiers()) + " " + f.getType() + " " + f.getName(), "public static final int NONE");
        }
        Check.so(PromisePlatform.NONE == -1, "there is NONE, -1");
    }

    static void constructors(Class<?> c) {
        Constructor<?>[] all = c.getDeclaredConstructors();
        same("constructors", all.length + " " + all[0], "1 public PromisePlatform()");
    }

    static void same(String what, String got, String due) {
        Check.so(got.equals(due), what + " are " + due + ", not " + got);
    }
}
