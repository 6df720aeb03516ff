import java.nio.ByteBuffer;
import java.nio.charset.StandardCharsets;
import java.util.Arrays;

/**
 * One object under test, with the answers that are due written out. The same calls go to the model, so
 * that a test which is wrong about the document is met, too.
 */
final class Check {
    static int wrong;
    static int asked;
    private final String about;
    private final Calls program = new Calls(new PromisePlatform());
    private final Calls model = new Calls(new Model());

    Check(String about) { this.about = about; }

    static final String STATE = "throws.IllegalStateException";
    static final String ARGUMENT = "throws.IllegalArgumentException";
    static final String INDEX = "throws.IndexOutOfBoundsException";

    static void finish() {
        System.out.println(asked + " answers, " + wrong + " not as due");
        if (wrong != 0) System.exit(1);
    }

    static long n(String name) {
        long code = 0;
        for (char c : name.toCharArray()) code = code << 8 | c;
        return code;
    }

    private void compare(String call, String got, String want) {
        asked++;
        if (!got.equals(want)) {
            wrong++;
            System.out.println(about + ": " + call + " answered " + got + ", due is " + want);
        }
    }

    Check is(Object due, String name, Object... args) {
        String call = name + Arrays.toString(args);
        compare(call, program.on(name, args), due.toString());
        compare("the model's " + call, model.on(name, args), due.toString());
        return this;
    }

    /** A call whose answer another test looks at. */
    String ask(String name, Object... args) {
        String want = model.on(name, args);
        compare(name + Arrays.toString(args), program.on(name, args), want);
        return want;
    }

    Check text(String text) { return bytes(text.getBytes(StandardCharsets.ISO_8859_1)); }

    Check bytes(byte[] bytes) {
        ByteBuffer in = ByteBuffer.wrap(Arrays.copyOf(bytes, (bytes.length + 19) / 20 * 20));
        while (in.hasRemaining()) {
            ask("feed", in.getInt(), in.getInt(), in.getInt(), in.getInt(), in.getInt());
        }
        ask("trim", bytes.length);
        return this;
    }

    String out() {
        int size = Integer.parseInt(ask("size"));
        ByteBuffer b = ByteBuffer.allocate(size + 8);
        for (int i = 0; 8 * i < size; i++) b.putLong(8 * i, Long.parseLong(ask("word", i)));
        return new String(b.array(), 0, size, StandardCharsets.ISO_8859_1);
    }

    /** An OUT call: how many bytes, and which ones. */
    Check writes(String due, String name, Object... args) {
        is(due.length(), name, args);
        compare(name + Arrays.toString(args) + "'s out", out(), due);
        return this;
    }

    Check keep(int k, String text) {
        text(text);
        String nodes = ask("keep", k);
        compare("keep of " + text, "" + (Integer.parseInt(nodes) > 0), "true");
        return this;
    }

    Check mint(String party, String token, Object number) { return text("" + number).is(0, "mint", n(party), n(token)); }

    Check set(String name, Object number) {
        text("" + number);
        ask("parameter", n(name));
        return this;
    }

    Check transact(Object due, int i, long start, long end, String inputs) {
        return text(inputs).is(due, "transact", i, start, end);
    }

    /** A text that has a fault at a place. */
    Check fault(int fault, int place, String text) {
        text(text).is(-1, "keep", 0).is(fault, "fault", false).is(place, "fault", true);
        return this;
    }

    Check payment(int p, int sort, String from, String to, String token, String number) {
        return is(sort, "payment", p, 0).is(n(from), "payment", p, 1).is(n(to), "payment", p, 2)
                .is(n(token), "payment", p, 3).writes(number, "amount", p, false);
    }

    Check warning(int w, int kind, String a, String b, String c, String number) {
        return is(kind, "warning", w, 0).is(n(a), "warning", w, 1).is(n(b), "warning", w, 2).is(n(c), "warning", w, 3)
                .writes(number, "amount", w, true);
    }

    /** All wallets and accounts of gold are what was minted. */
    Check conserved() {
        ask("total", n("gold"), 2);
        String both = out();
        ask("total", n("gold"), 3);
        compare("total", out(), both);
        return this;
    }
}
