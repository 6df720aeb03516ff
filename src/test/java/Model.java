import java.math.BigInteger;
import java.nio.charset.StandardCharsets;
import java.util.ArrayList;
import java.util.Arrays;
import java.util.List;
import java.util.Set;
import java.util.HashSet;
import java.util.TreeMap;

/**
 * The document written a second time, slowly and with the whole Java library, so that runs of calls can
 * be compared. It shares no code with the program: a parser by recursion, maps, copies of all there is.
 */
public final class Model {
    static final Set<String> KEYWORDS = new HashSet<>(Arrays.asList(("close pay to into if when case deposit choice "
            + "notify let assert held neg add sub mul div chosen start end use cond and or not chose ge gt le lt eq "
            + "true false").split(" ")));
    static final BigInteger LIMIT = BigInteger.TEN.pow(300);
    static final long LAST = 1000000000000000L;
    static final int DISK = 16384;

    static final class Refused extends Exception {
        final int code;
        Refused(int code) { super(null, null, false, false); this.code = code; }
    }

    static final class Faulty extends Exception {
        final int fault;
        final int place;
        Faulty(int fault, int place) { super(null, null, false, false); this.fault = fault; this.place = place; }
    }

    record Token(String text, int place) { }

    /** A node: its word, its names, its numbers (bounds), its time, its parts in order. */
    static final class Node {
        String word;
        boolean isCase;
        final List<String> names = new ArrayList<>();
        final List<BigInteger> numbers = new ArrayList<>();
        String way;
        String time;
        final List<Node> parts = new ArrayList<>();

        boolean isParameter() { return word.startsWith("?"); }

        int nodes() {
            int n = 1;
            for (Node p : parts) n += p.nodes();
            return n;
        }

        void all(List<Node> into) {
            into.add(this);
            for (Node p : parts) p.all(into);
        }

        int whens() {
            int most = 0;
            for (Node p : parts) most = Math.max(most, p.whens());
            return most + (word.equals("when") ? 1 : 0);
        }

        void tokens(List<String> into) {
            if (isCase) into.add("case");
            into.add(word);
            if (word.equals("pay")) {
                into.addAll(List.of(names.get(0), way, names.get(1), names.get(2)));
            } else {
                into.addAll(names);
            }
            if (word.equals("choice")) {
                into.add("[");
                for (BigInteger b : numbers) into.add(b.toString());
                into.add("]");
            }
            if (word.equals("when")) {
                into.add("[");
                for (int i = 0; i + 1 < parts.size(); i++) parts.get(i).tokens(into);
                into.add("]");
                into.add(time);
                parts.get(parts.size() - 1).tokens(into);
            } else {
                for (Node p : parts) p.tokens(into);
            }
        }

        String print() {
            List<String> t = new ArrayList<>();
            tokens(t);
            return String.join(" ", t);
        }
    }

    record Pair(long a, long b) implements Comparable<Pair> {
        public int compareTo(Pair o) { return a != o.a ? Long.compare(a, o.a) : Long.compare(b, o.b); }
    }

    static final class Inst {
        Node node;
        TreeMap<Long, BigInteger> params = new TreeMap<>();
        TreeMap<Pair, BigInteger> accounts = new TreeMap<>();
        TreeMap<Pair, BigInteger> choices = new TreeMap<>();
        TreeMap<Pair, BigInteger> lets = new TreeMap<>();
        long least;

        Inst copy() {
            Inst i = new Inst();
            i.node = node;
            i.params = params;
            i.accounts.putAll(accounts);
            i.choices.putAll(choices);
            i.lets.putAll(lets);
            i.least = least;
            return i;
        }

        boolean over() { return node.word.equals("close") && accounts.isEmpty(); }
    }

    record Note(int kind, long a, long b, long c, BigInteger number) { }

    record Input(String word, long a, long b, long c, BigInteger number) { }

    // ---- what there is

    byte[] tape = new byte[0];
    byte[] out = new byte[0];
    Node[] contracts = new Node[16];
    Inst[] instances = new Inst[16];
    TreeMap<Long, BigInteger> params = new TreeMap<>();
    TreeMap<Pair, BigInteger> wallets = new TreeMap<>();
    TreeMap<Long, BigInteger> minted = new TreeMap<>();
    List<Note> payments = new ArrayList<>();
    List<Note> warnings = new ArrayList<>();
    int fault = -1;
    int place = -1;
    int ever;
    int tries;
    final int[] disk = new int[DISK];
    int used;
    int records;
    long fuse = -1;
    boolean cut;
    boolean replay;

    // ---- texts

    static boolean isName(String s) {
        return s.matches("[a-z][a-z0-9]{0,7}") && !KEYWORDS.contains(s);
    }

    static long code(String name) {
        long c = 0;
        for (char x : name.toCharArray()) c = c * 256 + x;
        return c;
    }

    static String text(long code) {
        StringBuilder b = new StringBuilder();
        for (long c = code; c != 0; c >>>= 8) b.insert(0, (char) (c & 255));
        return b.toString();
    }

    static boolean isName(long code) { return isName(text(code)); }

    static final class Tokens {
        final byte[] text;
        int at;
        Token now;

        Tokens(byte[] text) { this.text = text; }

        /** The next token, or null at the end; what is no token is a fault. */
        Token next() throws Faulty {
            while (at < text.length && (text[at] & 255) <= 32) at++;
            if (at == text.length) return now = null;
            int from = at++;
            if ("()[]".indexOf((char) (text[from] & 255)) < 0) {
                while (at < text.length && (text[at] & 255) > 32 && "()[]".indexOf((char) (text[at] & 255)) < 0) at++;
            }
            String s = new String(text, from, at - from, StandardCharsets.ISO_8859_1);
            now = new Token(s, from);
            boolean known = "()[]".contains(s) && s.length() == 1 || KEYWORDS.contains(s) || isName(s)
                    || s.startsWith("?") && isName(s.substring(1)) || s.matches("-?[0-9]+");
            if (!known) throw new Faulty(1, from);
            if (s.matches("-?[0-9]+") && s.replaceFirst("-?0*", "").length() > 300) throw new Faulty(2, from);
            return now;
        }

        String must() throws Faulty {
            if (next() == null) throw new Faulty(3, text.length);
            return now.text;
        }

        Faulty wrong(int fault) { return new Faulty(fault, now.place); }

        String name() throws Faulty {
            String s = must();
            if (!isName(s)) throw wrong(4);
            return s;
        }

        static boolean isNumber(String s) { return s.matches("-?[0-9]+"); }

        BigInteger number() throws Faulty {
            String s = must();
            if (!isNumber(s)) throw wrong(4);
            return new BigInteger(s);
        }

        void word(String w) throws Faulty {
            if (!must().equals(w)) throw wrong(4);
        }

        void over() throws Faulty {
            if (next() != null) throw wrong(9);
        }
    }

    static final String CONTRACT = " close pay if when let assert ";
    static final String VALUE = " held neg add sub mul div chosen start end use cond ";
    static final String OBSERVATION = " and or not chose ge gt le lt eq true false ";

    static final class ContractReader {
        final Tokens in;
        int nodes;

        ContractReader(byte[] text) { in = new Tokens(text); }

        Node whole() throws Faulty {
            Node n = node(CONTRACT, 0);
            in.over();
            return n;
        }

        void meet(int deep) throws Faulty {
            if (deep > 100 || ++nodes > 1000) throw in.wrong(7);
        }

        Node node(String sort, int deep) throws Faulty {
            int open = 0;
            String s = in.must();
            for (; s.equals("("); s = in.must()) open++;
            boolean literal = Tokens.isNumber(s) || s.startsWith("?");
            if (!(sort.contains(" " + s + " ") || sort.equals(VALUE) && literal)) throw in.wrong(4);
            meet(deep);
            Node n = new Node();
            n.word = Tokens.isNumber(s) ? new BigInteger(s).toString() : s;
            switch (s) {
                case "pay":
                    n.names.add(in.name());
                    n.way = in.must();
                    if (!n.way.equals("to") && !n.way.equals("into")) throw in.wrong(4);
                    n.names.add(in.name());
                    n.names.add(in.name());
                    parts(n, deep, VALUE, CONTRACT);
                    break;
                case "if": parts(n, deep, OBSERVATION, CONTRACT, CONTRACT); break;
                case "when": when(n, deep); break;
                case "let": n.names.add(in.name()); parts(n, deep, VALUE, CONTRACT); break;
                case "assert": parts(n, deep, OBSERVATION, CONTRACT); break;
                case "held": case "chosen": case "chose": n.names.add(in.name()); n.names.add(in.name()); break;
                case "neg": parts(n, deep, VALUE); break;
                case "use": n.names.add(in.name()); break;
                case "cond": parts(n, deep, OBSERVATION, VALUE, VALUE); break;
                case "and": case "or": parts(n, deep, OBSERVATION, OBSERVATION); break;
                case "not": parts(n, deep, OBSERVATION); break;
                case "add": case "sub": case "mul": case "div": case "ge": case "gt": case "le": case "lt": case "eq":
                    parts(n, deep, VALUE, VALUE);
                    break;
                default: break;
            }
            for (; open > 0; open--) in.word(")");
            return n;
        }

        void parts(Node n, int deep, String... sorts) throws Faulty {
            for (String sort : sorts) n.parts.add(node(sort, deep + 1));
        }

        void when(Node n, int deep) throws Faulty {
            in.word("[");
            for (String s = in.must(); !s.equals("]"); s = in.must()) {
                if (!s.equals("case")) throw in.wrong(4);
                meet(deep + 1);
                if (n.parts.size() == 8) throw in.wrong(8);
                n.parts.add(action(deep + 1));
            }
            String t = in.must();
            if (!Tokens.isNumber(t) && !t.startsWith("?")) throw in.wrong(4);
            if (Tokens.isNumber(t)) {
                BigInteger b = new BigInteger(t);
                if (!isTime(b)) throw in.wrong(5);
                t = b.toString();
            }
            n.time = t;
            n.parts.add(node(CONTRACT, deep + 1));
        }

        Node action(int deep) throws Faulty {
            Node n = new Node();
            n.isCase = true;
            n.word = in.must();
            switch (n.word) {
                case "deposit":
                    for (int i = 0; i < 3; i++) n.names.add(in.name());
                    parts(n, deep, VALUE, CONTRACT);
                    return n;
                case "choice":
                    n.names.add(in.name());
                    n.names.add(in.name());
                    in.word("[");
                    bounds(n);
                    parts(n, deep, CONTRACT);
                    return n;
                case "notify":
                    parts(n, deep, OBSERVATION, CONTRACT);
                    return n;
                default:
                    throw in.wrong(4);
            }
        }

        void bounds(Node n) throws Faulty {
            for (String s = in.must(); !s.equals("]") || n.numbers.isEmpty(); s = in.must()) {
                if (!Tokens.isNumber(s)) throw in.wrong(4);
                if (n.numbers.size() == 8) throw in.wrong(8);
                BigInteger low = new BigInteger(s);
                BigInteger high = in.number();
                if (high.compareTo(low) < 0) throw in.wrong(6);
                n.numbers.add(low);
                n.numbers.add(high);
            }
        }
    }

    static boolean isTime(BigInteger b) {
        return b.signum() >= 0 && b.compareTo(BigInteger.valueOf(LAST)) <= 0;
    }

    static boolean isTime(long t) { return t >= 0 && t <= LAST; }

    static List<Input> readInputs(byte[] text) throws Faulty {
        Tokens in = new Tokens(text);
        List<Input> all = new ArrayList<>();
        while (in.next() != null) {
            String w = in.now.text;
            if (!w.equals("deposit") && !w.equals("choice") && !w.equals("notify")) throw in.wrong(4);
            if (all.size() == 40) throw in.wrong(9);
            long a = 0, b = 0, c = 0;
            BigInteger n = BigInteger.ZERO;
            if (!w.equals("notify")) {
                a = code(in.name());
                b = code(in.name());
                if (w.equals("deposit")) c = code(in.name());
                n = in.number();
            }
            all.add(new Input(w, a, b, c, n));
        }
        return all;
    }

    static BigInteger readNumber(byte[] text) throws Faulty {
        Tokens in = new Tokens(text);
        BigInteger n = in.number();
        in.over();
        return n;
    }

    interface Reading<T> { T read(byte[] text) throws Faulty; }

    /** Reads the text, tells its fault; -1 if it has one. */
    <T> T reading(byte[] text, Reading<T> how) throws Refused {
        try {
            T t = how.read(text);
            fault = 0;
            place = -1;
            return t;
        } catch (Faulty f) {
            fault = f.fault;
            place = f.place;
            throw new Refused(-1);
        }
    }

    // ---- running

    static final class Run {
        Inst inst;
        TreeMap<Pair, BigInteger> wallets;
        List<Note> payments = new ArrayList<>();
        List<Note> warnings = new ArrayList<>();
        BigInteger start;
        BigInteger end;
        boolean looking;
        boolean closePaid;

        static BigInteger checked(BigInteger b) throws Refused {
            if (b.abs().compareTo(LIMIT) >= 0) throw new Refused(-8);
            return b;
        }

        static BigInteger of(TreeMap<Pair, BigInteger> map, long a, long b) {
            return map.getOrDefault(new Pair(a, b), BigInteger.ZERO);
        }

        BigInteger value(Node n) throws Refused {
            if (n.isParameter()) return inst.params.get(code(n.word.substring(1)));
            switch (n.word) {
                case "held": return of(inst.accounts, code(n.names.get(0)), code(n.names.get(1)));
                case "chosen": return of(inst.choices, code(n.names.get(0)), code(n.names.get(1)));
                case "use": return of(inst.lets, code(n.names.get(0)), 0);
                case "start": return start;
                case "end": return end;
                case "neg": return value(n.parts.get(0)).negate();
                case "cond": return value(n.parts.get(observation(n.parts.get(0)) ? 1 : 2));
                case "add": return checked(value(n.parts.get(0)).add(value(n.parts.get(1))));
                case "sub": return checked(value(n.parts.get(0)).subtract(value(n.parts.get(1))));
                case "mul": return checked(value(n.parts.get(0)).multiply(value(n.parts.get(1))));
                case "div": {
                    BigInteger a = value(n.parts.get(0));
                    BigInteger b = value(n.parts.get(1));
                    return b.signum() == 0 ? b : a.divide(b);
                }
                default: return new BigInteger(n.word);
            }
        }

        boolean observation(Node n) throws Refused {
            switch (n.word) {
                case "true": return true;
                case "false": return false;
                case "not": return !observation(n.parts.get(0));
                case "and": return observation(n.parts.get(0)) & observation(n.parts.get(1));
                case "or": return observation(n.parts.get(0)) | observation(n.parts.get(1));
                case "chose": return inst.choices.containsKey(new Pair(code(n.names.get(0)), code(n.names.get(1))));
                default: break;
            }
            int order = value(n.parts.get(0)).compareTo(value(n.parts.get(1)));
            switch (n.word) {
                case "ge": return order >= 0;
                case "gt": return order > 0;
                case "le": return order <= 0;
                case "lt": return order < 0;
                default: return order == 0;
            }
        }

        BigInteger time(Node when) {
            return when.time.startsWith("?") ? inst.params.get(code(when.time.substring(1))) : new BigInteger(when.time);
        }

        static void limit(int size, int most) throws Refused {
            if (size > most) throw new Refused(-9);
        }

        void pays(int sort, long from, long to, long token, BigInteger v) throws Refused {
            payments.add(new Note(sort, from, to, token, v));
            limit(payments.size(), 60);
            Pair account = new Pair(from, token);
            BigInteger left = inst.accounts.get(account).subtract(v);
            if (left.signum() == 0) inst.accounts.remove(account); else inst.accounts.put(account, left);
            if (sort == 1) {
                gives(inst.accounts, to, token, v, 40);
            } else if (!looking) {
                gives(wallets, to, token, v, 60);
            }
        }

        static void gives(TreeMap<Pair, BigInteger> map, long to, long token, BigInteger v, int most) throws Refused {
            map.put(new Pair(to, token), checked(of(map, to, token).add(v)));
            limit(map.size(), most);
        }

        void warns(int kind, long a, long b, long c, BigInteger v) throws Refused {
            warnings.add(new Note(kind, a, b, c, v));
            limit(warnings.size(), 60);
        }

        boolean quiet() {
            return inst.over() || inst.node.word.equals("when") && end.compareTo(time(inst.node)) < 0;
        }

        void reduce() throws Refused {
            while (!quiet()) {
                Node n = inst.node;
                Node last = n.parts.isEmpty() ? null : n.parts.get(n.parts.size() - 1);
                switch (n.word) {
                    case "close": {
                        Pair p = inst.accounts.firstKey();
                        closePaid = true;
                        pays(0, p.a, p.a, p.b, inst.accounts.get(p));
                        break;
                    }
                    case "pay": pay(n); inst.node = last; break;
                    case "if": inst.node = n.parts.get(observation(n.parts.get(0)) ? 1 : 2); break;
                    case "when":
                        if (start.compareTo(time(n)) < 0) throw new Refused(-4);
                        inst.node = last;
                        break;
                    case "let": {
                        BigInteger v = value(n.parts.get(0));
                        Pair key = new Pair(code(n.names.get(0)), 0);
                        if (inst.lets.containsKey(key)) warns(4, key.a, 0, 0, inst.lets.get(key));
                        inst.lets.put(key, v);
                        limit(inst.lets.size(), 40);
                        inst.node = last;
                        break;
                    }
                    default:
                        if (!observation(n.parts.get(0))) warns(5, 0, 0, 0, null);
                        inst.node = last;
                        break;
                }
            }
        }

        void pay(Node n) throws Refused {
            BigInteger v = value(n.parts.get(0));
            long from = code(n.names.get(0)), to = code(n.names.get(1)), token = code(n.names.get(2));
            if (v.signum() <= 0) {
                warns(2, from, to, token, v);
                return;
            }
            BigInteger has = of(inst.accounts, from, token);
            if (has.compareTo(v) < 0) warns(3, from, to, token, v);
            BigInteger paid = has.min(v);
            if (paid.signum() > 0) pays(n.way.equals("into") ? 1 : 0, from, to, token, paid);
        }

        boolean takes(Node c, Input in) throws Refused {
            if (!c.word.equals(in.word)) return false;
            if (in.word.equals("notify")) return observation(c.parts.get(0));
            if (code(c.names.get(0)) != in.a || code(c.names.get(1)) != in.b) return false;
            if (in.word.equals("deposit")) {
                return code(c.names.get(2)) == in.c && value(c.parts.get(0)).equals(in.number);
            }
            for (int i = 0; i < c.numbers.size(); i += 2) {
                if (c.numbers.get(i).compareTo(in.number) <= 0 && c.numbers.get(i + 1).compareTo(in.number) >= 0) {
                    return true;
                }
            }
            return false;
        }

        void apply(Input in) throws Refused {
            Node taken = null;
            for (Node c : inst.node.parts) {
                if (c.isCase && takes(c, in)) {
                    taken = c;
                    break;
                }
            }
            if (taken == null) throw new Refused(-5);
            if (in.word.equals("choice")) {
                inst.choices.put(new Pair(in.a, in.b), in.number);
                limit(inst.choices.size(), 40);
            }
            if (in.word.equals("deposit")) {
                if (in.number.signum() <= 0) {
                    warns(1, in.a, in.b, in.c, in.number);
                } else {
                    if (!looking) {
                        Pair purse = new Pair(in.b, in.c);
                        BigInteger left = of(wallets, in.b, in.c).subtract(in.number);
                        if (left.signum() < 0) throw new Refused(-7);
                        if (left.signum() == 0) wallets.remove(purse); else wallets.put(purse, left);
                    }
                    gives(inst.accounts, in.a, in.c, in.number, 40);
                }
            }
            inst.node = taken.parts.get(taken.parts.size() - 1);
        }

        void transaction(long from, long to, List<Input> inputs) throws Refused {
            if (from > to || !isTime(from) || !isTime(to)) throw new Refused(-2);
            if (to < inst.least) throw new Refused(-3);
            long begin = Math.max(from, inst.least);
            start = BigInteger.valueOf(begin);
            end = BigInteger.valueOf(to);
            Node before = inst.node;
            reduce();
            for (Input in : inputs) {
                apply(in);
                reduce();
            }
            if (inputs.isEmpty() && inst.node == before && !closePaid) throw new Refused(-6);
            inst.least = begin;
        }
    }

    // ---- the search

    static final class Done extends Exception {
        final int answer;
        Done(int answer) { super(null, null, false, false); this.answer = answer; }
    }

    final class Looking {
        int mask;
        int fuel;
        int made;
        final List<String> path = new ArrayList<>();

        void from(Inst inst) throws Done {
            Run r = new Run();
            r.inst = inst;
            r.start = r.end = BigInteger.valueOf(inst.least);
            if (inst.over()) return;
            if (!r.quiet()) {
                attempt(inst, inst.least, null);
                return;
            }
            for (Node c : inst.node.parts) {
                if (!c.isCase) continue;
                List<BigInteger> numbers = new ArrayList<>();
                try {
                    if (c.word.equals("deposit")) numbers.add(r.value(c.parts.get(0)));
                    if (c.word.equals("notify") && r.observation(c.parts.get(0))) numbers.add(BigInteger.ZERO);
                } catch (Refused large) {
                    continue;
                }
                for (int i = 0; i < c.numbers.size(); i++) {
                    if (i % 2 == 0 || !c.numbers.get(i).equals(c.numbers.get(i - 1))) numbers.add(c.numbers.get(i));
                }
                long a = c.word.equals("notify") ? 0 : code(c.names.get(0));
                long b = c.word.equals("notify") ? 0 : code(c.names.get(1));
                long t = c.word.equals("deposit") ? code(c.names.get(2)) : 0;
                for (BigInteger n : numbers) attempt(inst, inst.least, new Input(c.word, a, b, t, n));
            }
            attempt(inst, r.time(inst.node).longValueExact(), null);
        }

        void attempt(Inst inst, long at, Input in) throws Done {
            if (made == fuel) throw new Done(2);
            made++;
            Run r = new Run();
            r.inst = inst.copy();
            r.looking = true;
            try {
                r.transaction(at, at, in == null ? List.of() : List.of(in));
            } catch (Refused no) {
                return;
            }
            String step = "wait " + at;
            if (in != null) {
                step = in.word + (in.a != 0 ? " " + text(in.a) + " " + text(in.b) : "")
                        + (in.c != 0 ? " " + text(in.c) : "") + (in.a != 0 ? " " + in.number : "") + " at " + at;
            }
            path.add(step);
            for (Note w : r.warnings) {
                if ((mask >> (w.kind - 1) & 1) == 1) throw new Done(1);
            }
            from(r.inst);
            path.remove(path.size() - 1);
        }
    }

    // ---- the journal

    static int crc(int[] disk, int at, int length) {
        long c = 2166136261L;
        for (int i = 0; i < length + 4; i++) {
            long b = i < length ? disk[at + i] : at >>> (8 * (length + 3 - i)) & 255;
            c = (c ^ b) * 16777619 % 4294967296L;
        }
        return (int) c;
    }

    /** Throws IllegalState if the power is cut by it. */
    void journal(int kind, byte[] text, long... numbers) throws Refused {
        if (replay) return;
        int length = 7 + 8 * numbers.length + text.length;
        if (used + length > DISK) throw new Refused(-10);
        int[] image = new int[used + length];
        int at = used;
        image[at++] = length / 256;
        image[at++] = length % 256;
        image[at++] = kind;
        for (long n : numbers) {
            for (int i = 7; i >= 0; i--) image[at++] = (int) (n >>> (8 * i)) & 255;
        }
        for (byte b : text) image[at++] = b & 255;
        int crc = crc(image, used, length - 4);
        for (int i = 3; i >= 0; i--) image[at++] = crc >>> (8 * i) & 255;
        if (used + length + 2 < DISK) disk[used + length + 2] = 0;
        for (int i = 0; i < length; i++) {
            if (fuse == 0) {
                disk[used + 2] = 0;
                cut = true;
                throw new IllegalStateException();
            }
            disk[used + i] = image[used + i];
            if (fuse > 0) fuse--;
        }
        used += length;
        records++;
    }

    // ---- the face

    void power() {
        if (cut) throw new IllegalStateException();
    }

    static void index(long i, long most) {
        if (i < 0 || i >= most) throw new IndexOutOfBoundsException();
    }

    static void argument(boolean ok) {
        if (!ok) throw new IllegalArgumentException();
    }

    static void state(boolean ok) {
        if (!ok) throw new IllegalStateException();
    }

    byte[] taken() {
        power();
        byte[] t = tape;
        tape = new byte[0];
        return t;
    }

    int put(String s) {
        out = s.getBytes(StandardCharsets.ISO_8859_1);
        if (out.length > 16384) out = Arrays.copyOf(out, 16384);
        return out.length;
    }

    public int feed(int a, int b, int c, int d, int e) {
        power();
        argument(tape.length + 20 <= 16384);
        tape = Arrays.copyOf(tape, tape.length + 20);
        java.nio.ByteBuffer.wrap(tape, tape.length - 20, 20).putInt(a).putInt(b).putInt(c).putInt(d).putInt(e);
        return tape.length;
    }

    public int trim(int n) {
        power();
        argument(n >= 0);
        if (n < tape.length) tape = Arrays.copyOf(tape, n);
        return tape.length;
    }

    public int size() {
        power();
        return out.length;
    }

    public long word(int i) {
        power();
        long w = 0;
        for (long at = 8L * i; at < 8L * i + 8; at++) w = w * 256 + (at >= 0 && at < out.length ? out[(int) at] & 255 : 0);
        return w;
    }

    public int show() {
        power();
        out = tape.clone();
        return out.length;
    }

    public int keep(int k) { return keeping(k, taken()); }

    int keeping(long k, byte[] text) {
        index(k, 16);
        state(contracts[(int) k] == null);
        try {
            Node n = reading(text, t -> new ContractReader(t).whole());
            if (ever + n.nodes() > 4000) throw new Refused(-9);
            journal(1, text, k);
            contracts[(int) k] = n;
            ever += n.nodes();
            return n.nodes();
        } catch (Refused r) {
            return r.code;
        }
    }

    public int fault(boolean where) { return where ? place : fault; }

    public int drop(int k) {
        power();
        return dropping(k);
    }

    int dropping(long k) {
        index(k, 16);
        state(contracts[(int) k] != null);
        try {
            journal(2, new byte[0], k);
            contracts[(int) k] = null;
            return 0;
        } catch (Refused r) {
            return r.code;
        }
    }

    public int print(int k) {
        power();
        index(k, 16);
        state(contracts[k] != null);
        return put(contracts[k].print());
    }

    public long about(int k, int what) {
        power();
        index(k, 16);
        argument(what >= 0 && what <= 4);
        state(contracts[k] != null);
        List<Node> all = new ArrayList<>();
        contracts[k].all(all);
        long latest = -1;
        Set<String> names = new HashSet<>();
        Set<String> accounts = new HashSet<>();
        for (Node n : all) {
            if (n.isParameter()) names.add(n.word);
            if (n.word.equals("when")) {
                if (n.time.startsWith("?")) names.add(n.time); else latest = Math.max(latest, Long.parseLong(n.time));
            }
            if (n.word.equals("deposit")) accounts.add(n.names.get(0) + " " + n.names.get(2));
            if ("into".equals(n.way)) accounts.add(n.names.get(1) + " " + n.names.get(2));
        }
        return what == 0 ? latest : what == 1 ? all.size() : what == 2 ? names.size()
                : what == 3 ? contracts[k].whens() : accounts.size();
    }

    public int parameter(long name) { return setting(name, taken()); }

    int setting(long name, byte[] text) {
        argument(isName(name));
        try {
            BigInteger n = reading(text, Model::readNumber);
            if (params.size() == 20 && !params.containsKey(name)) throw new Refused(-9);
            journal(7, text, name);
            params.put(name, n);
            return params.size();
        } catch (Refused r) {
            return r.code;
        }
    }

    public int forget() {
        power();
        return forgetting();
    }

    int forgetting() {
        try {
            journal(8, new byte[0]);
        } catch (Refused r) {
            return r.code;
        }
        int n = params.size();
        params = new TreeMap<>();
        return n;
    }

    public int begin(int i, int k, long time) {
        power();
        return beginning(i, k, time);
    }

    boolean lacks(Node root) {
        List<Node> all = new ArrayList<>();
        root.all(all);
        for (Node n : all) {
            String p = n.isParameter() ? n.word : n.time != null && n.time.startsWith("?") ? n.time : null;
            if (p == null) continue;
            BigInteger v = params.get(code(p.substring(1)));
            if (v == null || n.time != null && !isTime(v)) return true;
        }
        return false;
    }

    int beginning(long i, long k, long time) {
        index(i, 16);
        index(k, 16);
        argument(isTime(time));
        state(instances[(int) i] == null && contracts[(int) k] != null);
        if (lacks(contracts[(int) k])) return -11;
        try {
            journal(3, new byte[0], i, k, time);
        } catch (Refused r) {
            return r.code;
        }
        instances[(int) i] = fresh((int) k, time);
        return 0;
    }

    Inst fresh(int k, long time) {
        Inst inst = new Inst();
        inst.node = contracts[k];
        inst.params = new TreeMap<>(params);
        inst.least = time;
        return inst;
    }

    public int end(int i) {
        power();
        return ending(i);
    }

    int ending(long i) {
        index(i, 16);
        state(instances[(int) i] != null && instances[(int) i].over());
        try {
            journal(4, new byte[0], i);
        } catch (Refused r) {
            return r.code;
        }
        instances[(int) i] = null;
        return 0;
    }

    public int transact(int i, long start, long end) { return transacting(i, start, end, taken()); }

    int transacting(long i, long start, long end, byte[] text) {
        index(i, 16);
        state(instances[(int) i] != null);
        try {
            List<Input> inputs = reading(text, Model::readInputs);
            Run r = new Run();
            r.inst = instances[(int) i].copy();
            r.wallets = new TreeMap<>(wallets);
            r.transaction(start, end, inputs);
            journal(6, text, i, start, end);
            instances[(int) i] = r.inst;
            wallets = r.wallets;
            payments = r.payments;
            warnings = r.warnings;
            return 0;
        } catch (Refused r) {
            return r.code;
        }
    }

    Inst inst(int i) {
        power();
        index(i, 16);
        state(instances[i] != null);
        return instances[i];
    }

    public int rest(int i) { return put(inst(i).node.print()); }

    public long state(int i, int what) {
        power();
        index(i, 16);
        argument(what >= 0 && what <= 5);
        Inst x = inst(i);
        return what == 0 ? x.least : what == 1 ? x.accounts.size() : what == 2 ? x.choices.size()
                : what == 3 ? x.lets.size() : what == 4 ? x.params.size() : x.over() ? 1 : 0;
    }

    TreeMap<Pair, BigInteger> entries(int i, int what, int e) {
        power();
        index(i, 16);
        argument(what >= 1 && what <= 4);
        Inst x = inst(i);
        TreeMap<Pair, BigInteger> p = new TreeMap<>();
        x.params.forEach((k, v) -> p.put(new Pair(k, 0), v));
        TreeMap<Pair, BigInteger> map = what == 1 ? x.accounts : what == 2 ? x.choices : what == 3 ? x.lets : p;
        index(e, map.size());
        return map;
    }

    public int entry(int i, int what, int e) {
        return put(new ArrayList<>(entries(i, what, e).values()).get(e).toString());
    }

    public long name(int i, int what, int e, boolean second) {
        Pair p = new ArrayList<>(entries(i, what, e).keySet()).get(e);
        return second ? p.b : p.a;
    }

    public int count(int what) {
        power();
        argument(what == 0 || what == 1);
        return what == 0 ? payments.size() : warnings.size();
    }

    long note(List<Note> notes, int p, int what) {
        power();
        index(p, notes.size());
        argument(what >= 0 && what <= 3);
        Note n = notes.get(p);
        return what == 0 ? n.kind : what == 1 ? n.a : what == 2 ? n.b : n.c;
    }

    public long payment(int p, int what) { return note(payments, p, what); }

    public long warning(int p, int what) { return note(warnings, p, what); }

    public int amount(int p, boolean warning) {
        power();
        List<Note> notes = warning ? warnings : payments;
        index(p, notes.size());
        return put(notes.get(p).number == null ? "" : notes.get(p).number.toString());
    }

    public int mint(long party, long token) { return minting(party, token, taken()); }

    int minting(long party, long token, byte[] text) {
        argument(isName(party) && isName(token));
        try {
            BigInteger n = reading(text, Model::readNumber);
            if (n.signum() <= 0) throw new Refused(-5);
            BigInteger purse = Run.checked(Run.of(wallets, party, token).add(n));
            BigInteger all = Run.checked(minted.getOrDefault(token, BigInteger.ZERO).add(n));
            if (wallets.size() == 60 && !wallets.containsKey(new Pair(party, token))) throw new Refused(-9);
            if (minted.size() == 60 && !minted.containsKey(token)) throw new Refused(-9);
            journal(5, text, party, token);
            wallets.put(new Pair(party, token), purse);
            minted.put(token, all);
            return 0;
        } catch (Refused r) {
            return r.code;
        }
    }

    public int wallet(long party, long token) {
        power();
        argument(isName(party) && isName(token));
        return put(Run.of(wallets, party, token).toString());
    }

    static BigInteger sum(TreeMap<Pair, BigInteger> map, long token) {
        BigInteger s = BigInteger.ZERO;
        for (Pair p : map.keySet()) if (p.b == token) s = s.add(map.get(p));
        return s;
    }

    public int total(long token, int what) {
        power();
        argument(isName(token) && what >= 0 && what <= 3);
        BigInteger held = BigInteger.ZERO;
        for (Inst i : instances) if (i != null) held = held.add(sum(i.accounts, token));
        BigInteger purses = sum(wallets, token);
        return put((what == 0 ? purses : what == 1 ? held : what == 2 ? purses.add(held)
                : minted.getOrDefault(token, BigInteger.ZERO)).toString());
    }

    public int wallets() {
        power();
        return wallets.size();
    }

    public int look(int k, boolean fresh, int mask, int fuel) {
        power();
        index(k, 16);
        argument(mask >= 1 && mask <= 31 && fuel >= 0 && fuel <= 400);
        state(fresh ? contracts[k] != null : instances[k] != null);
        if (fresh && lacks(contracts[k])) return -11;
        Looking l = new Looking();
        l.mask = mask;
        l.fuel = fuel;
        int answer = 0;
        try {
            l.from(fresh ? fresh(k, 0) : instances[k].copy());
        } catch (Done d) {
            answer = d.answer;
        }
        put(answer == 1 ? String.join(" ", l.path) : "");
        tries = l.made;
        return answer;
    }

    public int tries() {
        power();
        return tries;
    }

    public void fuse(int bytes) {
        power();
        argument(bytes >= -1);
        fuse = bytes;
    }

    public int peek(int i) {
        index(i, DISK);
        return disk[i];
    }

    public int poke(int i, int b) {
        index(i, DISK);
        argument(b >= 0 && b <= 255);
        state(cut);
        int was = disk[i];
        disk[i] = b;
        return was;
    }

    public void cut() {
        power();
        cut = true;
    }

    public int recover() {
        tape = new byte[0];
        out = new byte[0];
        contracts = new Node[16];
        instances = new Inst[16];
        params = new TreeMap<>();
        wallets = new TreeMap<>();
        minted = new TreeMap<>();
        payments = new ArrayList<>();
        warnings = new ArrayList<>();
        ever = tries = used = records = 0;
        fuse = -1;
        cut = false;
        replay = true;
        for (int length = sound(); length > 0; length = sound()) {
            int done;
            try {
                done = replayed(length);
            } catch (RuntimeException thrown) {
                done = -1;
            }
            if (done < 0) break;
            used += length;
            records++;
        }
        replay = false;
        fault = place = -1;
        return records;
    }

    static final int[] NUMBERS = {1, 1, 3, 1, 2, 3, 1, 0};

    int sound() {
        if (used + 7 > DISK) return 0;
        int length = disk[used] * 256 + disk[used + 1];
        int kind = disk[used + 2];
        if (used + length > DISK || length < 7 || kind < 1 || kind > 8) return 0;
        int text = length - 7 - 8 * NUMBERS[kind - 1];
        if (text < 0 || text > 0 && "1567".indexOf("" + kind) < 0) return 0;
        int crc = 0;
        for (int i = 4; i > 0; i--) crc = crc << 8 | disk[used + length - i];
        return crc == crc(disk, used, length - 4) ? length : 0;
    }

    int replayed(int length) {
        int kind = disk[used + 2];
        long[] n = new long[3];
        int at = used + 3;
        for (int i = 0; i < NUMBERS[kind - 1]; i++) {
            for (int j = 0; j < 8; j++) n[i] = n[i] << 8 | disk[at++];
        }
        byte[] text = new byte[used + length - 4 - at];
        for (int i = 0; i < text.length; i++) text[i] = (byte) disk[at + i];
        switch (kind) {
            case 1: return keeping(n[0], text);
            case 2: return dropping(n[0]);
            case 3: return beginning(n[0], n[1], n[2]);
            case 4: return ending(n[0]);
            case 5: return minting(n[0], n[1], text);
            case 6: return transacting(n[0], n[1], n[2], text);
            case 7: return setting(n[0], text);
            default: return forgetting();
        }
    }

    public int told(int what) {
        argument(what >= 0 && what <= 7);
        int kept = 0;
        int begun = 0;
        for (int i = 0; i < 16; i++) {
            if (contracts[i] != null) kept++;
            if (instances[i] != null) begun++;
        }
        return new int[] {kept, begun, tape.length, used, records, ever, params.size(), cut ? 1 : 0}[what];
    }
}
