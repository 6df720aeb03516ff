import java.util.Random;

/** Makes texts of contracts by chance, of few names, so that they have much to do with one another. */
final class Texts {
    static final String[] PARTIES = {"ada", "bob", "eve"};
    static final String[] TOKENS = {"gold", "oil"};
    static final String[] LABELS = {"x", "y", "z9"};
    static final String[] PARAMETERS = {"fee", "t1", "t2"};
    private final Random random;
    private int left;

    Texts(Random random) { this.random = random; }

    static String pick(Random random, String... of) { return of[random.nextInt(of.length)]; }

    String contract(int nodes) {
        left = nodes;
        return contract();
    }

    private String wrapped(String s) {
        int chance = random.nextInt(12);
        return chance == 0 ? "(" + s + ")" : chance == 1 ? "( ( " + s + ")) " : s;
    }

    String party() { return pick(random, PARTIES); }

    String token() { return pick(random, TOKENS); }

    String label() { return pick(random, LABELS); }

    private String contract() {
        if (left-- <= 0) return "close";
        switch (random.nextInt(12)) {
            case 0: return wrapped("close");
            case 1: case 2: case 3:
                return wrapped("pay " + party() + (random.nextBoolean() ? " to " : " into ") + party() + " " + token() + " "
                        + value(2) + " " + contract());
            case 4: return wrapped("if " + observation(2) + " " + contract() + " " + contract());
            case 5: return wrapped("let " + label() + " " + value(3) + " " + contract());
            case 6: return wrapped("assert " + observation(2) + " " + contract());
            default: return wrapped(when());
        }
    }

    private String when() {
        StringBuilder b = new StringBuilder("when [");
        int cases = random.nextInt(4);
        for (int i = 0; i < cases; i++) {
            left--;
            b.append(random.nextBoolean() ? " case " : "case ").append(action()).append(' ').append(contract()).append(' ');
        }
        String time = random.nextInt(8) == 0 ? "?" + pick(random, "t1", "t2") : "" + random.nextInt(40);
        return b + "]" + time + " " + contract();
    }

    private String action() {
        switch (random.nextInt(4)) {
            case 0: case 1: return "deposit " + party() + " " + party() + " " + token() + " " + value(1);
            case 2: {
                StringBuilder b = new StringBuilder("choice " + label() + " " + party() + " [");
                for (int pairs = 1 + random.nextInt(3); pairs > 0; pairs--) {
                    int low = random.nextInt(20) - 8;
                    b.append(low).append(' ').append(low + random.nextInt(4)).append(' ');
                }
                return b + "]";
            }
            default: return "notify " + observation(2);
        }
    }

    String number() {
        switch (random.nextInt(24)) {
            case 0: return "-0";
            case 1: return "00" + random.nextInt(50);
            case 2: return digits(1 + random.nextInt(300));
            case 3: return "-" + digits(1 + random.nextInt(40));
            case 4: return digits(8 + random.nextInt(13));
            case 5: return "1" + "0".repeat(random.nextInt(300));
            default: return "" + (random.nextInt(16) - 3);
        }
    }

    String digits(int n) {
        StringBuilder b = new StringBuilder();
        boolean high = random.nextInt(3) == 0;
        for (int i = 0; i < n; i++) b.append(high ? '9' : (char) ('0' + random.nextInt(10)));
        return b.toString();
    }

    String value(int deep) {
        left--;
        switch (deep <= 0 ? random.nextInt(5) : random.nextInt(16)) {
            case 0: case 1: case 2: return wrapped(number());
            case 3: return wrapped("held " + party() + " " + token());
            case 4: return random.nextInt(4) == 0 ? "?" + pick(random, PARAMETERS) : "use " + label();
            case 5: return wrapped("chosen " + label() + " " + party());
            case 6: return pick(random, "start", "end");
            case 7: return wrapped("neg " + value(deep - 1));
            case 8: return wrapped("cond " + observation(deep - 1) + " " + value(deep - 1) + " " + value(deep - 1));
            default:
                return wrapped(pick(random, "add", "sub", "mul", "mul", "div", "div") + " " + value(deep - 1) + " "
                        + value(deep - 1));
        }
    }

    private String observation(int deep) {
        left--;
        switch (deep <= 0 ? random.nextInt(3) : random.nextInt(9)) {
            case 0: return wrapped("true");
            case 1: return "false";
            case 2: return wrapped("chose " + label() + " " + party());
            case 3: return wrapped("not " + observation(deep - 1));
            case 4: return pick(random, "and ", "or ") + observation(deep - 1) + " " + observation(deep - 1);
            default:
                return wrapped(pick(random, "ge", "gt", "le", "lt", "eq") + " " + value(deep - 1) + " " + value(deep - 1));
        }
    }

    /** Something of a text is altered, so that it most often has a fault. */
    String spoiled(String text) {
        if (text.isEmpty()) return "(";
        int at = random.nextInt(text.length());
        String rest = text.substring(at);
        switch (random.nextInt(7)) {
            case 0: return text.substring(0, at);
            case 1: return text.substring(0, at) + rest.substring(1);
            case 2: return text.substring(0, at) + pick(random, "(", ")", "[", "]", "?", "-", "Z", "\u00ff", "9", "q", " ") + rest;
            case 3: return text.substring(0, at) + " " + pick(random, "close", "case", "to", "1", "ada", "?x", "toolonga1", "]", "(") + " " + rest;
            case 4: return text + " " + pick(random, "close", ")", "1", "x");
            case 5: return text.replaceFirst(" [a-z0-9]+ ", " " + pick(random, "-1", "if", "[", "1x") + " ");
            default: return text.substring(0, at) + " " + digits(299 + random.nextInt(4)) + " " + rest;
        }
    }
}
