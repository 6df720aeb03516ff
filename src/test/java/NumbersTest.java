import java.math.BigInteger;
import java.util.Random;

/** Values of hundreds of digits, worked out by contracts and by BigInteger. */
public final class NumbersTest {
    static final String[] OPERATIONS = {"add", "sub", "mul", "div"};
    static final String[] ORDERS = {"ge", "gt", "le", "lt", "eq"};
    static final BigInteger LIMIT = BigInteger.TEN.pow(300);
    static final Random RANDOM = new Random(7);

    public static void main(String[] args) {
        for (int object = 0; object < 60; object++) onOneObject();
        smallOnes();
        Check.finish();
    }

    static void onOneObject() {
        Check c = new Check("reckoning");
        for (int i = 0; i < 4; i++) c.keep(i, "let r " + OPERATIONS[i] + " ?p ?q close");
        for (int i = 0; i < 5; i++) c.keep(4 + i, "let r cond " + ORDERS[i] + " ?p ?q 1 0 close");
        c.keep(9, "let r neg ?p close");
        for (int round = 0; round < 6; round++) {
            BigInteger q = number();
            BigInteger p = round % 3 == 0 ? near(q) : number();
            c.set("p", p).set("q", q);
            for (int i = 0; i < 4; i++) result(c, i, worked(i, p, q));
            int order = p.compareTo(q);
            boolean[] so = {order >= 0, order > 0, order <= 0, order < 0, order == 0};
            for (int i = 0; i < 5; i++) result(c, 4 + i, BigInteger.valueOf(so[i] ? 1 : 0));
            result(c, 9, p.negate());
        }
    }

    static BigInteger worked(int operation, BigInteger p, BigInteger q) {
        switch (operation) {
            case 0: return p.add(q);
            case 1: return p.subtract(q);
            case 2: return p.multiply(q);
            default: return q.signum() == 0 ? q : p.divide(q);
        }
    }

    static void result(Check c, int contract, BigInteger due) {
        c.is(0, "begin", 0, contract, 0L);
        if (due.abs().compareTo(LIMIT) >= 0) {
            c.transact(-8, 0, 0, 0, "").is(0, "state", 0, 3);
            // an instance that can't go on is left behind
            c.is("void", "cut");
            undoBegin(c);
            return;
        }
        c.transact(0, 0, 0, 0, "").writes(due.toString(), "entry", 0, 3, 0).is(0, "end", 0);
    }

    static void undoBegin(Check c) {
        int end = Integer.parseInt(c.ask("told", 3));
        c.ask("poke", end - 1, Integer.parseInt(c.ask("peek", end - 1)) ^ 1);
        c.ask("recover");
    }

    /** Numbers whose parts of nine digits are often the least or the greatest ones. */
    static BigInteger number() {
        StringBuilder b = new StringBuilder();
        int parts = 1 + RANDOM.nextInt(RANDOM.nextInt(3) == 0 ? 33 : 17);
        for (int i = 0; i < parts; i++) {
            int kind = RANDOM.nextInt(8);
            int part = kind == 0 ? 0 : kind == 1 ? 999999999 : kind == 2 ? 1 : kind == 3 ? 500000000 : kind == 4 ? 499999999 : RANDOM.nextInt(1000000000);
            b.append(String.format("%09d", part));
        }
        if (parts == 33) b.append(String.format("%03d", RANDOM.nextInt(1000)));
        BigInteger n = new BigInteger(b.toString());
        return RANDOM.nextInt(3) == 0 ? n.negate() : n;
    }

    /** A multiple of a number, or one more or less, or as much as it nearly. */
    static BigInteger near(BigInteger q) {
        BigInteger n = q.multiply(number().abs().mod(BigInteger.TEN.pow(RANDOM.nextInt(200)))).add(BigInteger.valueOf(RANDOM.nextInt(3) - 1));
        return n.abs().compareTo(LIMIT) >= 0 ? q.add(BigInteger.valueOf(RANDOM.nextInt(3) - 1)).mod(LIMIT) : n;
    }

    static void smallOnes() {
        int[] some = {-7, -3, -2, -1, 0, 1, 2, 3, 7};
        for (int p : some) {
            StringBuilder text = new StringBuilder();
            for (int q : some) text.append("let r div ").append(p).append(' ').append(q).append(' ');
            Check c = new Check("div " + p).keep(0, text + "when [] 9 close").is(0, "begin", 0, 0, 0L).transact(0, 0, 0, 0, "");
            for (int i = 0; i < some.length - 1; i++) c.writes("" + (some[i] == 0 ? 0 : p / some[i]), "amount", i, true);
        }
    }
}
