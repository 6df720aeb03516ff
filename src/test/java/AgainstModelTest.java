import java.math.BigInteger;
import java.nio.charset.StandardCharsets;
import java.util.ArrayList;
import java.util.Arrays;
import java.util.List;
import java.util.Random;

/** Long runs of calls by chance (always the same ones), each answer compared with the model's. */
public final class AgainstModelTest {
    private final Random random;
    private final Texts texts;
    private final Model model = new Model();
    private final Calls program = new Calls(new PromisePlatform());
    private final Calls due = new Calls(model);
    private final List<String> log = new ArrayList<>();
    private boolean wrong;

    AgainstModelTest(long seed) {
        random = new Random(seed);
        texts = new Texts(random);
    }

    public static void main(String[] args) {
        long from = args.length > 0 ? Long.parseLong(args[0]) : 1;
        long to = args.length > 1 ? Long.parseLong(args[1]) : 400;
        for (long seed = from; seed <= to; seed++) {
            AgainstModelTest run = new AgainstModelTest(seed);
            run.steps(60 + (int) (seed % 5) * 60);
            if (run.wrong) {
                System.out.println("seed " + seed);
                run.log.subList(Math.max(0, run.log.size() - 25), run.log.size()).forEach(System.out::println);
                System.exit(1);
            }
        }
        System.out.println("seeds " + from + " to " + to + " answer as the model does");
    }

    String call(String name, Object... args) {
        String want = due.on(name, args);
        String got = program.on(name, args);
        log.add(name + Arrays.toString(args) + " -> " + got + (got.equals(want) ? "" : ", due is " + want));
        wrong = wrong || !got.equals(want);
        return want;
    }

    void feed(String text) {
        byte[] b = text.getBytes(StandardCharsets.ISO_8859_1);
        log.add("text: " + text);
        byte[] padded = Arrays.copyOf(b, (b.length + 19) / 20 * 20);
        java.nio.ByteBuffer in = java.nio.ByteBuffer.wrap(padded);
        while (in.hasRemaining() && !wrong) {
            call("feed", in.getInt(), in.getInt(), in.getInt(), in.getInt(), in.getInt());
        }
        if (random.nextInt(4) > 0) call("trim", b.length);
    }

    /** What lets most contracts be begun, and deposits be paid. */
    void prepare() {
        for (String name : Texts.PARAMETERS) {
            feed("" + random.nextInt(40));
            call("parameter", Model.code(name));
        }
        for (String party : Texts.PARTIES) {
            for (String token : Texts.TOKENS) {
                feed(random.nextInt(6) == 0 ? texts.number() : "" + random.nextInt(60));
                call("mint", Model.code(party), Model.code(token));
            }
        }
    }

    void steps(int howMany) {
        if (random.nextInt(8) > 0) prepare();
        for (int i = 0; i < howMany && !wrong; i++) {
            step();
            if (random.nextInt(6) == 0) compareAll();
            if (random.nextInt(40) == 0) compareDisk();
        }
        compareAll();
        compareDisk();
        call("recover");
        compareAll();
    }

    int place() { return random.nextInt(30) == 0 ? random.nextInt(40) - 20 : random.nextInt(3); }

    long name(String... of) { return random.nextInt(30) == 0 ? random.nextLong() >>> random.nextInt(64) : Model.code(Texts.pick(random, of)); }

    void step() {
        if (model.cut && random.nextInt(3) == 0) call("recover");
        switch (random.nextInt(22)) {
            case 0: case 1: keep(); break;
            case 2: if (random.nextInt(3) == 0) call("drop", place()); else call("print", place()); break;
            case 3: parameter(); break;
            case 4: if (random.nextInt(5) == 0) call("forget"); else call("about", place(), random.nextInt(6)); break;
            case 5: case 6: call("begin", place(), place(), (long) random.nextInt(20) - (random.nextInt(20) == 0 ? 20 : 0)); break;
            case 7: call("end", place()); break;
            case 8: mint(); break;
            case 9: call("look", place(), random.nextBoolean(), random.nextInt(33), random.nextInt(20) == 0 ? random.nextInt(402) : random.nextInt(60)); compareOut(); break;
            case 10: if (random.nextInt(4) == 0) power(); break;
            case 11: call("rest", place()); compareOut(); break;
            case 12: call("entry", place(), random.nextInt(6), random.nextInt(3)); compareOut(); break;
            default: transact(); break;
        }
    }

    void keep() {
        String text = texts.contract(2 + random.nextInt(30));
        feed(random.nextInt(4) == 0 ? texts.spoiled(text) : text);
        int k = place();
        if (random.nextBoolean()) call("drop", k);
        call("keep", k);
        call("fault", false);
        call("fault", true);
    }

    void parameter() {
        String text = random.nextBoolean() ? "" + random.nextInt(40) : texts.number();
        feed(random.nextInt(8) == 0 ? texts.spoiled(text) : text);
        call("parameter", name(Texts.PARAMETERS));
    }

    void mint() {
        String text = random.nextBoolean() ? "" + random.nextInt(100) : texts.number();
        feed(random.nextInt(8) == 0 ? texts.spoiled(text) : text);
        call("mint", name(Texts.PARTIES), name(Texts.TOKENS));
    }

    /** An input that the contract waits for, most often. */
    String input(Model.Inst inst, long at) {
        List<Model.Node> cases = new ArrayList<>(inst.node.parts);
        cases.removeIf(n -> !n.isCase);
        if (cases.isEmpty() || random.nextInt(10) == 0) {
            return Texts.pick(random, "notify", "deposit " + texts.party() + " " + texts.party() + " " + texts.token() + " " + texts.number(),
                    "choice " + texts.label() + " " + texts.party() + " " + texts.number());
        }
        Model.Node c = cases.get(random.nextInt(cases.size()));
        if (c.word.equals("notify")) return "notify";
        if (c.word.equals("choice")) {
            BigInteger n = c.numbers.get(random.nextInt(c.numbers.size())).add(BigInteger.valueOf(random.nextInt(5) == 0 ? 1 : 0));
            return "choice " + c.names.get(0) + " " + c.names.get(1) + " " + n;
        }
        Model.Run r = new Model.Run();
        r.inst = inst;
        r.start = r.end = BigInteger.valueOf(at);
        String n;
        try {
            n = r.value(c.parts.get(0)).toString();
        } catch (Model.Refused large) {
            n = "1";
        }
        return "deposit " + c.names.get(0) + " " + c.names.get(1) + " " + c.names.get(2) + " " + n;
    }

    /** Most often an instance that is begun, or else one that is begun now. */
    int begunPlace() {
        int i = place();
        for (int more = 1; more < 3 && i >= 0 && i < 3 && model.instances[i] == null; more++) i = (i + 1) % 3;
        if (i < 0 || i >= 16 || model.cut) return i;
        if (model.instances[i] != null) {
            if (random.nextInt(5) == 0 || !model.instances[i].over()) return i;
            call("end", i);
        }
        int k = random.nextInt(3);
        if (model.contracts[k] == null) {
            feed(texts.contract(10 + random.nextInt(40)));
            call("keep", k);
        }
        call("begin", i, k, (long) random.nextInt(5));
        return i;
    }

    void transact() {
        int i = random.nextInt(3) == 0 ? place() : begunPlace();
        Model.Inst inst = i >= 0 && i < 16 ? model.instances[i] : null;
        long start = random.nextInt(45);
        StringBuilder text = new StringBuilder();
        if (inst != null) {
            start = random.nextInt(5) == 0 ? start : inst.least + random.nextInt(3);
            Model.Inst now = inst.copy();
            for (int inputs = random.nextInt(3); inputs > 0; inputs--) {
                String one = input(now, start);
                text.append(one).append(' ');
                try {
                    Model.Run r = new Model.Run();
                    r.inst = now;
                    r.looking = true;
                    r.transaction(start, start, Model.readInputs(one.getBytes(StandardCharsets.ISO_8859_1)));
                } catch (Model.Refused | Model.Faulty no) {
                    break;
                }
            }
        }
        feed(random.nextInt(20) == 0 ? texts.spoiled(text.toString()) : text.toString());
        call("transact", i, start, start + (random.nextInt(3) == 0 ? random.nextInt(8) - 1 : 0));
        call("fault", false);
        call("count", 0);
        call("count", 1);
    }

    void power() {
        if (random.nextInt(3) > 0) {
            call("fuse", random.nextInt(200) - 1);
            return;
        }
        if (random.nextInt(3) > 0 || model.cut) {
            if (!model.cut) call("cut");
            for (int i = random.nextInt(3); i > 0; i--) {
                int at = random.nextInt(model.used + 40);
                call("poke", at, random.nextInt(3) == 0 ? random.nextInt(256) : model.disk[at]);
            }
            if (random.nextInt(4) == 0) forge();
        }
        call("recover");
    }

    /** Spoils a record but for its CHECK, so that what it does decides whether it is one. */
    void forge() {
        int at = model.used > 40 ? 0 : 16000;
        int length = model.disk[at] * 256 + model.disk[at + 1];
        if (length < 8 || length > 2000) return;
        int where = at + 2 + random.nextInt(length - 6);
        call("poke", where, random.nextInt(256));
        int crc = Model.crc(model.disk, at, length - 4);
        for (int i = 0; i < 4; i++) call("poke", at + length - 4 + i, crc >>> (24 - 8 * i) & 255);
    }

    void compareOut() {
        call("size");
        for (int i = 0; i <= model.out.length / 8 && !wrong; i++) call("word", i);
    }

    void compareAll() {
        for (int what = 0; what < 8; what++) call("told", what);
        call("fault", false);
        call("fault", true);
        compareOut();
        for (int i = 0; i < 3; i++) {
            for (int what = 0; what < 6; what++) call("state", i, what);
            for (int what = 1; what < 5; what++) {
                for (int e = 0; e < 4; e++) {
                    call("name", i, what, e, false);
                    call("name", i, what, e, true);
                    if (!call("entry", i, what, e).startsWith("throws")) compareOut();
                }
            }
        }
        for (int p = 0; p < model.payments.size(); p++) {
            for (int what = 0; what < 4; what++) call("payment", p, what);
            call("amount", p, false);
            compareOut();
        }
        for (int w = 0; w < model.warnings.size(); w++) {
            for (int what = 0; what < 4; what++) call("warning", w, what);
            call("amount", w, true);
            compareOut();
        }
        for (String party : Texts.PARTIES) {
            for (String token : Texts.TOKENS) {
                call("wallet", Model.code(party), Model.code(token));
                compareOut();
            }
        }
        for (int what = 0; what < 4; what++) {
            call("total", Model.code("gold"), what);
            compareOut();
        }
        call("wallets");
        call("tries");
    }

    void compareDisk() {
        for (int i = 0; i < 16384 && !wrong; i++) {
            if (!due.on("peek", i).equals(program.on("peek", i))) {
                call("peek", i);
            }
        }
    }
}
