import java.util.ArrayList;
import java.util.List;
import java.util.Random;

/**
 * Contracts that are long chains of deposits, choices, pays, lets or asserts, so that states, payments,
 * warnings and wallets get to their limits, by one transaction or several: each answer is the model's.
 */
public final class ChainsTest {
    private final Random random;
    private final Check c;
    private final List<String> inputs = new ArrayList<>();
    private String[] parties = {};
    /** Whether each link of the chain is one more account, choice, let, payment or warning. */
    private boolean isPlain;

    ChainsTest(int seed) {
        random = new Random(seed);
        c = new Check("chains, seed " + seed);
    }

    public static void main(String[] args) {
        int from = args.length > 0 ? Integer.parseInt(args[0]) : 1;
        int to = args.length > 1 ? Integer.parseInt(args[1]) : 120;
        for (int seed = from; seed <= to && Check.wrong == 0; seed++) new ChainsTest(seed).run();
        Check.finish();
    }

    int pick(int... of) { return of[random.nextInt(of.length)]; }

    String pick(String... of) { return of[random.nextInt(of.length)]; }

    void run() {
        for (String token : new String[] {"gold", "oil"}) c.mint("ada", token, pick(20, 200, 10000));
        for (int i = pick(0, 0, 20, 57, 58); i > 0; i--) c.mint("w" + i, "gold", 1);
        for (int k = 0; k < 2; k++) {
            c.keep(k, chain());
            for (int what = 0; what < 5; what++) c.ask("about", k, what);
            c.ask("look", k, true, pick(1, 2, 4, 8, 16, 31), pick(30, 60, 100, 400));
            c.out();
            c.ask("begin", k, k, 0L);
            transactions(k);
            c.ask("look", k, false, 31, 400);
            c.out();
        }
        c.all();
        c.ask("recover");
        c.all();
    }

    void transactions(int i) {
        int done = 0;
        for (int turn = 0; turn < 6; turn++) {
            int more = Math.min(inputs.size() - done, pick(0, 1, 5, 20, 38, 39, 40, 41));
            c.text(String.join(" ", inputs.subList(done, done + more)));
            if (c.ask("transact", i, (long) pick(0, 1), (long) pick(5, 5, 5, 100)).equals("0")) done += more;
            if (turn % 3 == 0) c.all();
        }
        c.text("").ask("transact", i, 100L, 100L);
    }

    /** A chain that is 98 deep at most; the inputs that it takes are told aside. */
    String chain() {
        parties = new String[pick(38, 40, 41, 45, 62)];
        for (int i = 0; i < parties.length; i++) parties[i] = "p" + i;
        inputs.clear();
        String kind = pick("deposit", "pay", "let", "assert", "choice", "mixed", "deposit", "pay");
        StringBuilder head = new StringBuilder();
        StringBuilder tail = new StringBuilder();
        isPlain = random.nextBoolean();
        int links = isPlain ? pick(39, 40, 41, 42, 59, 60, 61, 62) : 96;
        if (isPlain) begin("deposit p0 ada gold 90", head, tail);
        int deep = isPlain ? 2 : 0;
        for (int i = 0; i < links && deep < 96; i++) {
            boolean isEarly = i < 5 && !isPlain && (kind.equals("pay") || kind.equals("mixed"));
            String one = isEarly ? "deposit" : kind.equals("mixed") ? pick("deposit", "pay", "let", "assert", "choice", "pay") : kind;
            deep += one.equals("deposit") || one.equals("choice") ? 2 : 1;
            link(one, parties[i % parties.length], head, tail);
        }
        return head + "close" + tail;
    }

    /** A when with one case, that takes this input. */
    private void begin(String input, StringBuilder head, StringBuilder tail) {
        head.append("when [case ").append(input).append(' ');
        tail.insert(0, "] 100 close");
        inputs.add(input);
    }

    private void link(String kind, String party, StringBuilder head, StringBuilder tail) {
        String token = pick("gold", "oil");
        switch (kind) {
            case "deposit":
                begin("deposit " + party + " ada " + token + " " + (isPlain ? 1 : pick(0, 1, 1, 1, 5)), head, tail);
                break;
            case "choice":
                head.append("when [case choice ").append(party).append(" ada [0 9] ");
                tail.insert(0, "] 100 close");
                inputs.add("choice " + party + " ada " + pick(0, 4, 9));
                break;
            case "pay":
                if (isPlain) head.append("pay p0 to p1 gold 1 ");
                else head.append("pay ").append(pick(parties)).append(pick(" to ", " into ")).append(pick(parties)).append(' ').append(token)
                        .append(' ').append(pick(-1, 0, 1, 1, 1, 3)).append(' ');
                break;
            case "let":
                head.append("let ").append(random.nextInt(10) == 0 && !isPlain ? "p0" : party).append(" add 1 use p0 ");
                break;
            default:
                head.append("assert ").append(isPlain ? "false" : pick("false", "false", "true", "gt held p1 gold 0")).append(' ');
        }
    }
}
