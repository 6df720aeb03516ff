import java.io.IOException;
import java.nio.ByteBuffer;
import java.nio.charset.StandardCharsets;
import java.nio.file.Files;
import java.nio.file.Path;
import java.util.Arrays;

/** The example of README.md: its calls answer what it says, and it stands there as it stands here. */
public final class ReadmeTest {
    public static void main(String[] args) throws IOException {
        Check.current = "README.md";
        example();
        sameInReadme();
        Check.finish();
    }

    static long name(String name) {
        long code = 0;
        for (char c : name.toCharArray()) code = code << 8 | c;
        return code;
    }

    static void text(PromisePlatform p, String text) {
        byte[] bytes = text.getBytes(StandardCharsets.ISO_8859_1);
        ByteBuffer in = ByteBuffer.wrap(Arrays.copyOf(bytes, (bytes.length + 19) / 20 * 20));
        while (in.hasRemaining()) p.feed(in.getInt(), in.getInt(), in.getInt(), in.getInt(), in.getInt());
        p.trim(bytes.length);
    }

    static String out(PromisePlatform p) {
        ByteBuffer bytes = ByteBuffer.allocate(p.size() + 8);
        for (int i = 0; 8 * i < p.size(); i++) bytes.putLong(p.word(i));
        return new String(bytes.array(), 0, p.size(), StandardCharsets.ISO_8859_1);
    }

    static void is(Object got, Object due) { Check.so(got.equals(due), got + " is " + due); }

    static void example() {
        PromisePlatform p = new PromisePlatform();
        text(p, "9");
        is(p.mint(name("ada"), name("gold")), 0);
        text(p, "when [case deposit ada ada gold ?sum when [case choice ok ada [1 1] pay ada to bob gold ?sum close] 20 close] 10 close");
        is(p.keep(0), 10);
        text(p, "5");
        is(p.parameter(name("sum")), 1);
        is(p.begin(1, 0, 3L), 0);
        text(p, "deposit ada ada gold 5");
        is(p.transact(1, 4L, 9L), 0);
        p.rest(1);
        is(out(p), "when [ case choice ok ada [ 1 1 ] pay ada to bob gold ?sum close ] 20 close");
        text(p, "choice ok ada 1");
        is(p.transact(1, 5L, 5L), 0);
        is(p.count(0), 1);
        is(p.payment(0, 2), name("bob"));
        p.wallet(name("bob"), name("gold"));
        is(out(p), "5");
        is(p.end(1), 0);
        is(p.look(0, true, 31, 400), 0);
        p.cut();
        is(p.recover(), 7);
        is(p.wallet(name("bob"), name("gold")), 1);
        is(out(p), "5");
    }

    /** Each line of the example, without what it says of its answer, is a line of this file. */
    static void sameInReadme() throws IOException {
        String own = Files.readString(Path.of("src/test/java/ReadmeTest.java"));
        boolean isJava = false;
        int lines = 0;
        for (String line : Files.readAllLines(Path.of("README.md"))) {
            if (line.startsWith("```")) isJava = line.equals("```java");
            else if (isJava && !line.isBlank()) {
                lines++;
                String call = line.replaceFirst(" *// .*", "").replaceFirst(";$", "").strip();
                Check.so(own.contains(call), "a line of this test: " + line);
            }
        }
        Check.so(lines > 30, "the example is found");
    }
}
