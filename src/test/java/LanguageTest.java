import java.io.IOException;
import java.lang.reflect.Field;
import java.lang.reflect.Method;
import java.lang.reflect.Modifier;
import java.nio.file.Files;
import java.nio.file.Path;
import java.util.ArrayList;
import java.util.List;
import java.util.Set;
import java.util.TreeSet;
import java.util.regex.Matcher;
import java.util.regex.Pattern;

/** What of ../shared/LANGUAGE.md can be seen from the text of the class and from its members; numbers are those of its rules. */
public final class LanguageTest {
    static final Path SOURCE = Path.of("src/main/java/PromisePlatform.java");
    static final Set<String> LIBRARY = Set.of("String", "Math", "Integer", "IllegalStateException", "IllegalArgumentException", "IndexOutOfBoundsException");
    static final Set<String> RULED_OUT = Set.of("package", "import", "protected", "try", "catch", "finally", "synchronized", "assert",
            "volatile", "transient", "native", "var", "yield", "double", "float");

    public static void main(String[] args) throws IOException {
        Check.current = "LANGUAGE.md";
        String text = Files.readString(SOURCE);
        String code = withoutTexts(text);
        List<Class<?>> classes = new ArrayList<>(List.of(PromisePlatform.class));
        classes.addAll(List.of(PromisePlatform.class.getDeclaredClasses()));
        Check.so(classes.size() <= 12, "rule 11: some twelve classes, not " + classes.size());
        Set<String> face = new TreeSet<>();
        for (Method m : PromisePlatform.class.getDeclaredMethods()) {
            if (Modifier.isPublic(m.getModifiers())) face.add(m.getName());
        }
        for (Class<?> c : classes) members(c, face);
        words(code, classes);
        signs(code);
        lengths(text);
        Check.finish();
    }

    /** The text without comments, and with nothing in its "texts" and 'signs'. */
    static String withoutTexts(String text) {
        return text.replaceAll("(?s)/\\*.*?\\*/", " ").replaceAll("\"[^\"\n]*\"", "\"\"").replaceAll("'[^'\n]+'", "' '").replaceAll("//[^\n]*", " ");
    }

    static void members(Class<?> c, Set<String> face) {
        int fields = 0;
        for (Field f : c.getDeclaredFields()) {
            if (f.isSynthetic()) continue;
            boolean isStatic = Modifier.isStatic(f.getModifiers());
            fields += isStatic ? 0 : 1;
            Check.so(!isStatic || Modifier.isFinal(f.getModifiers()), "rule 5: " + f + " is final");
            Check.so(!isStatic || Set.of("int", "long", "String", "int[]").contains(f.getType().getSimpleName()), "rule 5: " + f + " is a constant");
            Check.so(!f.getType().isArray() || !f.getType().getComponentType().isArray(), "rule 3: " + f + " has one dimension");
        }
        Check.so(fields <= 20, "rule 11: some twenty fields, not " + fields + " of " + c);
        for (Method m : c.getDeclaredMethods()) {
            if (m.isSynthetic()) continue;
            Check.so(m.getParameterCount() <= 7, "rule 11: seven parameters, " + m);
            Check.so(Modifier.isPublic(m.getModifiers()) || !face.contains(m.getName()), "rule 1: no other method is named as " + m);
        }
    }

    static void words(String code, List<Class<?>> classes) {
        Set<String> own = new TreeSet<>(LIBRARY);
        for (Class<?> c : classes) own.add(c.getSimpleName());
        Matcher m = Pattern.compile("[A-Za-z_$][A-Za-z0-9_$]*").matcher(code);
        while (m.find()) {
            String word = m.group();
            boolean isClass = word.matches("[A-Z].*[a-z].*");
            Check.so(!RULED_OUT.contains(word), "rules 1, 3, 6: no " + word);
            Check.so(!isClass || own.contains(word), "rule 4: " + word + " is listed");
            Check.so(!word.endsWith("Exact"), "rule 4: no " + word);
        }
    }

    static void signs(String code) {
        Check.so(!code.contains("->") && !code.contains("::"), "rule 2: no lambda, no method reference");
        Check.so(!Pattern.compile("static\\s*\\{").matcher(code).find(), "rule 5: no static block");
        Check.so(!Pattern.compile("\"\\s*\\+|\\+=?\\s*\"").matcher(code).find(), "rule 10: no text joined by +");
        Check.so(!Pattern.compile("while\\s*\\(\\s*true|for\\s*\\([^;]*;\\s*;").matcher(code).find(), "rule 9: no loop without an end");
        Matcher thrown = Pattern.compile("throw\\s+(?!new (IllegalState|IllegalArgument|IndexOutOfBounds)Exception\\(\"\"\\);)").matcher(code);
        Check.so(!thrown.find(), "rule 6: what is thrown is new, with a written text");
    }

    /** A method ends at the first brace that stands as far to the left as its own line. */
    static void lengths(String text) {
        String[] lines = text.split("\n");
        int methods = 0;
        for (int i = 0; i < lines.length; i++) {
            Matcher head = Pattern.compile("^( {4}| {8})(?! |return|throw|new)[\\w\\[\\] ]*\\w+\\([^;]*$").matcher(lines[i]);
            if (!head.find()) continue;
            int end = i;
            while (end < lines.length && !lines[end].equals(head.group(1) + "}")) end++;
            methods++;
            Check.so(end - i < 60, "rule 11: some sixty lines, not " + (end - i + 1) + " of" + lines[i]);
        }
        Check.so(methods > 200, "methods are found in the text, " + methods);
    }
}
