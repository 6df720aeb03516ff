import java.nio.ByteBuffer;
import java.nio.charset.StandardCharsets;
import java.util.ArrayList;
import java.util.Arrays;
import java.util.List;
import java.util.Set;

/**
 * One object under test, with the answers that are due written out. The same calls go to the model, so
 * that a test which is wrong about the document is met, too.
 */
final class Check {
    static int wrong;
    static int asked;
    /** The boundary test that is run now. */
    static String current = "";
    private final String about;
    private final Calls program = new Calls(new PromisePlatform());
    private final Calls model = new Calls(new Model());

    Check(String about) { this.about = about; }

    Check() { this(current); }

    static final String STATE = "throws.IllegalStateException";
    static final String ARGUMENT = "throws.IllegalArgumentException";
    static final String INDEX = "throws.IndexOutOfBoundsException";

    static void finish() {
        System.out.println(asked + " answers, " + wrong + " not as due");
        if (wrong != 0) System.exit(1);
    }

    /** What is no call's answer: whether it is so. */
    static void so(boolean right, String what) {
        asked++;
        if (!right) {
            wrong++;
            System.out.println(current + ": not so: " + what);
        }
    }

    static long n(String name) {
        long code = 0;
        for (char c : name.toCharArray()) code = code << 8 | c;
        return code;
    }

    private void compare(String call, String got, String want) {
        asked++;
        if (!got.equals(want)) {
            wrong++;
            System.out.println(about + ": " + call + " answered " + got + ", due is " + want);
        }
    }

    Check is(Object due, String name, Object... args) {
        String call = name + Arrays.toString(args);
        compare(call, program.on(name, args), due.toString());
        compare("the model's " + call, model.on(name, args), due.toString());
        return this;
    }

    /** A call whose answer another test looks at. */
    String ask(String name, Object... args) {
        String want = model.on(name, args);
        compare(name + Arrays.toString(args), program.on(name, args), want);
        return want;
    }

    Check text(String text) { return bytes(text.getBytes(StandardCharsets.ISO_8859_1)); }

    Check bytes(byte[] bytes) {
        ByteBuffer in = ByteBuffer.wrap(Arrays.copyOf(bytes, (bytes.length + 19) / 20 * 20));
        while (in.hasRemaining()) {
            ask("feed", in.getInt(), in.getInt(), in.getInt(), in.getInt(), in.getInt());
        }
        ask("trim", bytes.length);
        return this;
    }

    String out() {
        int size = Integer.parseInt(ask("size"));
        ByteBuffer b = ByteBuffer.allocate(size + 8);
        for (int i = 0; 8 * i < size; i++) b.putLong(8 * i, Long.parseLong(ask("word", i)));
        return new String(b.array(), 0, size, StandardCharsets.ISO_8859_1);
    }

    /** An OUT call: how many bytes, and which ones. */
    Check writes(String due, String name, Object... args) {
        is(due.length(), name, args);
        compare(name + Arrays.toString(args) + "'s out", out(), due);
        return this;
    }

    /** The out is these bytes, whichever call wrote it. */
    Check outIs(String due) {
        is(due.length(), "size");
        compare("the out", out(), due);
        return this;
    }

    Check keep(int k, String text) {
        text(text);
        String nodes = ask("keep", k);
        compare("keep of " + text, "" + (Integer.parseInt(nodes) > 0), "true");
        return this;
    }

    Check mint(String party, String token, Object number) { return text("" + number).is(0, "mint", n(party), n(token)); }

    Check set(String name, Object number) {
        text("" + number);
        ask("parameter", n(name));
        return this;
    }

    Check transact(Object due, int i, long start, long end, String inputs) {
        return text(inputs).is(due, "transact", i, start, end);
    }

    /** A text that has a fault at a place. */
    Check fault(int fault, int place, String text) {
        text(text).is(-1, "keep", 0).is(fault, "fault", false).is(place, "fault", true);
        return this;
    }

    /** The same of a text that would be another contract. */
    Check faulty(int k, int fault, int place, String text) {
        return text(text).is(-1, "keep", k).is(fault, "fault", false).is(place, "fault", true);
    }

    Check payment(int p, int sort, String from, String to, String token, String number) {
        return is(sort, "payment", p, 0).is(n(from), "payment", p, 1).is(n(to), "payment", p, 2)
                .is(n(token), "payment", p, 3).writes(number, "amount", p, false);
    }

    Check warning(int w, int kind, String a, String b, String c, String number) {
        return is(kind, "warning", w, 0).is(n(a), "warning", w, 1).is(n(b), "warning", w, 2).is(n(c), "warning", w, 3)
                .writes(number, "amount", w, true);
    }

    /** All wallets and accounts of gold are what was minted. */
    Check conserved() {
        ask("total", n("gold"), 2);
        String both = out();
        ask("total", n("gold"), 3);
        compare("total", out(), both);
        return this;
    }

    int number(String name, Object... args) { return Integer.parseInt(ask(name, args)); }

    // ---- refused calls

    private static final Set<String> TEXTS = Set.of("keep", "transact", "mint", "parameter");

    /**
     * A call that is refused or throws, with all that stays then: everything, but that a TEXT call uses the
     * tape up, and that fault() tells of its text, if it was read.
     */
    Check refuses(Object due, String name, Object... args) {
        List<String> before = all();
        String fault = ask("fault", false) + " " + ask("fault", true);
        String tape = ask("told", 2);
        // the out is not empty, so that it can be seen to stay
        ask("wallet", n("ada"), n("gold"));
        if (!tape.equals("0")) ask("show");
        String out = out();
        is(due, name, args);
        compare("the out behind " + name, out(), out);
        boolean isText = TEXTS.contains(name);
        is(isText ? "0" : tape, "told", 2);
        String now = ask("fault", false) + " " + ask("fault", true);
        if (!isText || due.toString().startsWith("throws")) {
            compare("the fault behind " + name, now, fault);
        } else if (due.equals(-1)) {
            compare("a fault behind " + name, "" + (!now.startsWith("0 ") && !now.contains("-")), "true");
        } else {
            compare("no fault behind " + name, now, "0 -1");
        }
        same("what there is behind " + name + Arrays.toString(args), all(), before);
        return this;
    }

    Check refusesText(Object due, String text, String name, Object... args) { return text(text).refuses(due, name, args); }

    private void same(String what, List<String> got, List<String> due) {
        for (int i = 0; i < Math.max(got.size(), due.size()); i++) {
            String a = i < got.size() ? got.get(i) : "nothing";
            String b = i < due.size() ? due.get(i) : "nothing";
            if (!a.equals(b)) {
                compare(what, a, b);
                return;
            }
        }
        compare(what, "" + got.size(), "" + due.size());
    }

    /** All that calls tell, but for tape, out and fault; it writes the out. */
    List<String> all() {
        List<String> a = new ArrayList<>();
        for (int what : new int[] {0, 1, 3, 4, 5, 6, 7}) tell(a, "told", what);
        for (int i = 0; i < Math.min(16384, number("told", 3) + 40); i++) tell(a, "peek", i);
        tell(a, "tries");
        tell(a, "wallets");
        for (String token : new String[] {"gold", "oil"}) {
            for (int what = 0; what < 4; what++) tellOut(a, "total", n(token), what);
            for (String party : new String[] {"ada", "bob", "eve"}) tellOut(a, "wallet", n(party), n(token));
        }
        for (int p = 0; p < number("count", 0); p++) {
            for (int what = 0; what < 4; what++) tell(a, "payment", p, what);
            tellOut(a, "amount", p, false);
        }
        for (int w = 0; w < number("count", 1); w++) {
            for (int what = 0; what < 4; what++) tell(a, "warning", w, what);
            tellOut(a, "amount", w, true);
        }
        for (int i = 0; i < 16; i++) {
            tellOut(a, "print", i);
            if (!tellOut(a, "rest", i).startsWith("throws")) tellInstance(a, i);
        }
        return a;
    }

    private void tellInstance(List<String> a, int i) {
        for (int what = 0; what < 6; what++) tell(a, "state", i, what);
        for (int what = 1; what < 5; what++) {
            for (int e = 0; e < number("state", i, what); e++) {
                tell(a, "name", i, what, e, false);
                tell(a, "name", i, what, e, true);
                tellOut(a, "entry", i, what, e);
            }
        }
    }

    private String tell(List<String> a, String name, Object... args) {
        String answer = ask(name, args);
        a.add(name + Arrays.toString(args) + " " + answer);
        return answer;
    }

    private String tellOut(List<String> a, String name, Object... args) {
        String answer = tell(a, name, args);
        if (!answer.startsWith("throws")) a.add(out());
        return answer;
    }

    // ---- records that no call wrote

    /** The CHECK of a record that stands at a place, reckoned apart from the program. */
    static int check(int[] bytes, int howMany, int at) {
        int c = (int) 2166136261L;
        for (int i = 0; i < howMany; i++) c = (c ^ bytes[i]) * 16777619;
        for (int shift = 24; shift >= 0; shift -= 8) c = (c ^ (at >>> shift & 255)) * 16777619;
        return c;
    }

    static int[] record(int at, int length, int kind, long[] numbers, String text) {
        int[] b = new int[length];
        b[0] = length >> 8;
        b[1] = length & 255;
        b[2] = kind;
        int n = 3;
        for (long number : numbers) for (int shift = 56; shift >= 0; shift -= 8) b[n++] = (int) (number >>> shift) & 255;
        for (int i = 0; i < text.length() && n < length; i++) b[n++] = text.charAt(i);
        sign(b, at);
        return b;
    }

    /** Puts the CHECK to the last four bytes. */
    static void sign(int[] b, int at) {
        int c = check(b, b.length - 4, at);
        for (int i = 0; i < 4; i++) b[b.length - 4 + i] = c >>> 24 - 8 * i & 255;
    }

    /** Puts bytes on the disk from a place on while the power is cut; what is the same already is left. */
    Check lay(int at, int[] bytes) {
        is("void", "cut");
        for (int i = 0; i < bytes.length; i++) {
            if (number("peek", at + i) != bytes[i]) ask("poke", at + i, bytes[i]);
        }
        return this;
    }

    /**
     * Puts a record behind those that there are, so that they take so many bytes of the disk together: a
     * PARAMETER whose text is 1 and blanks, which are the zeros that the disk has there. 512 calls could not
     * feed so much.
     */
    Check fillTo(int bytes) {
        int at = number("told", 3);
        int records = number("told", 4);
        lay(at, record(at, bytes - at, 7, new long[] {n("fill")}, "1"));
        return is(records + 1, "recover").is(bytes, "told", 3);
    }
}
