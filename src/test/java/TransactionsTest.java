/** Promises 16 and 21 to 24: transact, and what the latest transaction was. */
public final class TransactionsTest {
    static final String NINES = "9".repeat(300);
    static final String WAITING = "when [] 900 close";

    public static void main(String[] args) {
        wrongCalls();
        inputTexts();
        intervals();
        leastTime();
        reducing();
        paying();
        payingAll();
        payingInto();
        letsAndAsserts();
        deposits();
        choices();
        notices();
        firstCaseThatTakes();
        poor();
        depositOfWhatWasPaid();
        useless();
        large();
        wideAccounts();
        wideChoicesAndLets();
        widePaymentsAndWarnings();
        whichRefusalIsFirst();
        nothingIsChanged();
        latest();
        Check.finish();
    }

    static Check begun(String about, String contract) {
        return new Check(about).mint("ada", "gold", 1000).mint("bob", "oil", 50).keep(0, contract).is(0, "begin", 0, 0, 10L);
    }

    static void wrongCalls() {
        Check c = new Check("promise 16");
        c.text("!").is(Check.INDEX, "transact", -1, -1L, -1L).text("!").is(Check.INDEX, "transact", 16, 0L, 0L).is(0, "told", 2);
        c.text("!").is(Check.STATE, "transact", 0, -1L, -1L).is(0, "told", 2).is(-1, "fault", false);
    }

    static void inputTexts() {
        Check c = begun("inputs", "when [case notify true close] 99 close");
        fault(c, 1, 0, "Notify");
        fault(c, 2, 24, "deposit ada bob gold 1  1" + NINES);
        fault(c, 2, 21, "deposit ada bob gold 1" + NINES);
        fault(c, 3, 7, "deposit");
        fault(c, 3, 21, "deposit ada bob gold ");
        fault(c, 3, 15, "choice x ada   ");
        fault(c, 4, 0, "close");
        fault(c, 4, 0, "case notify");
        fault(c, 4, 0, "(notify)");
        fault(c, 4, 7, "notify true");
        fault(c, 4, 8, "deposit 1 bob gold 1");
        fault(c, 4, 16, "deposit ada bob to 1");
        fault(c, 4, 21, "deposit ada bob gold ?x");
        fault(c, 4, 21, "deposit ada bob gold (1)");
        fault(c, 4, 13, "choice x ada [1]");
        fault(c, 9, 40 * 7, "notify ".repeat(41));
        fault(c, 9, 40 * 7, "notify ".repeat(40) + "deposit");
        fault(c, 4, 40 * 7, "notify ".repeat(40) + "close");
        fault(c, 1, 40 * 7, "notify ".repeat(40) + "!");
        fault(c, 9, 40 * 7, "notify ".repeat(41) + "!");
        // a FAULT is looked at before the interval; 40 inputs are no fault
        c.transact(-1, 0, 5, 4, "x").transact(-2, 0, 5, 4, "notify ").transact(-5, 0, 10, 10, "notify ".repeat(40)).is(0, "fault", false);
        c.transact(0, 0, 10, 10, "\n notify\u0000\r").writes("close", "rest", 0);
    }

    static void fault(Check c, int fault, int place, String text) {
        c.transact(-1, 0, 10, 10, text).is(fault, "fault", false).is(place, "fault", true).is(0, "told", 2);
    }

    static void intervals() {
        Check c = begun("-2, -3, -4", "when [case notify true close] 20 let x start let y end when [] 40 close");
        c.transact(-2, 0, 11, 10, "notify").transact(-2, 0, -1, 10, "notify").transact(-2, 0, 10, 1000000000000001L, "notify");
        c.transact(-2, 0, Long.MIN_VALUE, 0, "").transact(-2, 0, 0, Long.MAX_VALUE, "").transact(-2, 0, 5, 4, "");
        c.transact(-3, 0, 0, 9, "notify").transact(-3, 0, 9, 9, "notify");
        c.transact(-4, 0, 10, 20, "notify").transact(-4, 0, 19, 21, "").transact(-4, 0, 0, 1000000000000000L, "");
        c.transact(-6, 0, 10, 19, "").transact(-5, 0, 20, 20, "notify").transact(-4, 0, 20, 40, "").transact(0, 0, 20, 39, "");
        c.writes("20", "entry", 0, 3, 0).writes("39", "entry", 0, 3, 1).is(20, "state", 0, 0);
        c.transact(0, 0, 1000000000000000L, 1000000000000000L, "").is(1000000000000000L, "state", 0, 0);
    }

    static void leastTime() {
        Check c = begun("LEAST TIME", "when [case notify true let x start let y end when [case notify true close] 90 close] 90 close");
        // START is the greater one of START and LEAST TIME
        c.transact(0, 0, 3, 15, "notify").is(10, "state", 0, 0).writes("10", "entry", 0, 3, 0).writes("15", "entry", 0, 3, 1);
        c.transact(-3, 0, 5, 9, "notify").transact(0, 0, 12, 13, "notify").is(12, "state", 0, 0);
    }

    static void reducing() {
        Check c = begun("reducing", "if lt held ada gold 1 if and true not true close let x 7 if or false true if eq use x 7 let y 1 " + WAITING + " close close close");
        c.transact(0, 0, 10, 11, "").is(2, "state", 0, 3).writes(WAITING.replace("[]", "[ ]"), "rest", 0).is(0, "count", 0).is(0, "count", 1);
        c = begun("a when whose time was", "when [] 5 when [] 10 when [] 11 close");
        c.transact(0, 0, 10, 10, "").writes("when [ ] 11 close", "rest", 0);
    }

    static void paying() {
        Check c = begun("pay to", "when [case deposit ada ada gold 100 pay ada to bob gold 30 pay ada to eve gold 0 pay ada to eve gold -4 "
                + "pay ada to eve gold 71 pay ada to eve gold 5 pay eve to ada oil 6 close] 20 close");
        c.transact(0, 0, 10, 10, "deposit ada ada gold 100");
        c.is(2, "count", 0).payment(0, 0, "ada", "bob", "gold", "30").payment(1, 0, "ada", "eve", "gold", "70");
        c.is(5, "count", 1).warning(0, 2, "ada", "eve", "gold", "0").warning(1, 2, "ada", "eve", "gold", "-4");
        c.warning(2, 3, "ada", "eve", "gold", "71").warning(3, 3, "ada", "eve", "gold", "5").warning(4, 3, "eve", "ada", "oil", "6");
        c.writes("30", "wallet", Check.n("bob"), Check.n("gold")).writes("70", "wallet", Check.n("eve"), Check.n("gold"));
        c.writes("900", "wallet", Check.n("ada"), Check.n("gold")).is(0, "state", 0, 1).conserved();
    }

    static void payingAll() {
        Check c = begun("close", "when [case deposit eve ada gold 4 when [case deposit bob bob oil 3 when [case deposit bob ada gold 5 close] 20 close] 20 close] 20 close");
        c.transact(0, 0, 10, 10, "deposit eve ada gold 4 deposit bob bob oil 3").is(2, "state", 0, 1);
        c.transact(0, 0, 10, 10, "deposit bob ada gold 5").is(3, "count", 0);
        c.payment(0, 0, "bob", "bob", "oil", "3").payment(1, 0, "bob", "bob", "gold", "5").payment(2, 0, "eve", "eve", "gold", "4");
        c.is(1, "state", 0, 5).writes("991", "wallet", Check.n("ada"), Check.n("gold")).conserved();
    }

    static void payingInto() {
        Check c = begun("pay into", "when [case deposit ada ada gold 9 pay ada into bob gold 4 pay ada into ada gold 2 pay ada into ada gold 9 pay bob into bob gold 4 "
                + "pay bob into eve gold 1 " + WAITING + "] 20 close");
        c.transact(0, 0, 10, 10, "deposit ada ada gold 9").is(5, "count", 0).is(1, "count", 1);
        c.payment(0, 1, "ada", "bob", "gold", "4").payment(1, 1, "ada", "ada", "gold", "2").payment(2, 1, "ada", "ada", "gold", "5");
        c.payment(3, 1, "bob", "bob", "gold", "4").payment(4, 1, "bob", "eve", "gold", "1").warning(0, 3, "ada", "ada", "gold", "9");
        c.is(3, "state", 0, 1).writes("5", "entry", 0, 1, 0).writes("3", "entry", 0, 1, 1).writes("1", "entry", 0, 1, 2).conserved();
        // an account that is paid out of wholly goes
        c = begun("pay into", "when [case deposit ada ada gold 9 pay ada into bob gold 9 " + WAITING + "] 20 close");
        c.transact(0, 0, 10, 10, "deposit ada ada gold 9").is(1, "state", 0, 1).is(Check.n("bob"), "name", 0, 1, 0, false);
    }

    static void letsAndAsserts() {
        Check c = begun("let, assert", "let x 1 let y 2 assert eq use x 1 let x add use x use nope assert gt use x 1 let x -5 assert false " + WAITING);
        c.transact(0, 0, 10, 10, "").is(4, "count", 1).warning(0, 4, "x", "", "", "1").warning(1, 5, "", "", "", "").warning(2, 4, "x", "", "", "1");
        c.warning(3, 5, "", "", "", "").is(2, "state", 0, 3).writes("-5", "entry", 0, 3, 0).writes("2", "entry", 0, 3, 1);
    }

    static void deposits() {
        String contract = "when [case deposit bob ada gold sub 10 start " + WAITING + " case deposit bob ada gold neg 4 when [case deposit ada ada gold 5 " + WAITING
                + "] 20 close] 20 close";
        Check c = begun("deposit", contract);
        c.transact(-5, 0, 10, 10, "deposit bob ada gold 5").transact(-5, 0, 10, 10, "deposit ada bob gold 0").transact(-5, 0, 10, 10, "deposit bob ada oil 0");
        c.transact(0, 0, 10, 10, "deposit bob ada gold 0").is(1, "count", 1).is(0, "count", 0).warning(0, 1, "bob", "ada", "gold", "0").is(0, "state", 0, 1);
        c = begun("deposit", contract).transact(0, 0, 10, 10, "deposit bob ada gold -4 deposit ada ada gold 5").warning(0, 1, "bob", "ada", "gold", "-4");
        c.is(1, "count", 1).writes("995", "wallet", Check.n("ada"), Check.n("gold")).writes("5", "entry", 0, 1, 0);
        // the same account twice
        c = begun("deposit", "when [case deposit bob ada gold 3 when [case deposit bob ada gold held bob gold " + WAITING + "] 20 close] 20 close");
        c.transact(0, 0, 10, 10, "deposit bob ada gold 3 deposit bob ada gold 3").is(1, "state", 0, 1).writes("6", "entry", 0, 1, 0).conserved();
    }

    static void choices() {
        String contract = "when [case choice x ada [-3 -1 5 5 7 9] when [case choice x ada [0 9] when [case choice x bob [2 2] " + WAITING + "] 20 close] 20 close] 20 close";
        for (String bad : new String[] {"choice x ada -4", "choice x ada 0", "choice x ada 6", "choice x ada 10", "choice x bob -1", "choice y ada -1", "notify"}) {
            begun("choice", contract).transact(-5, 0, 10, 10, bad).is(0, "state", 0, 2);
        }
        for (String good : new String[] {"-3", "-2", "-1", "5", "7", "8", "9"}) {
            begun("choice", contract).transact(0, 0, 10, 10, "choice x ada " + good).writes(good, "entry", 0, 2, 0);
        }
        Check c = begun("choice", contract).transact(0, 0, 10, 10, "choice x ada 8 choice x ada 0").is(1, "state", 0, 2).writes("0", "entry", 0, 2, 0);
        c.transact(0, 0, 10, 10, "choice x bob 2").is(2, "state", 0, 2).is(0, "count", 0).is(0, "count", 1);
        // chosen 0 is chosen, none is 0
        c = begun("chose", "when [case choice x ada [0 0] if and chose x ada not chose x bob let v add chosen x ada chosen x bob " + WAITING + " close] 20 close");
        c.transact(0, 0, 10, 10, "choice x ada 0").is(1, "state", 0, 3);
    }

    static void notices() {
        String contract = "when [case notify lt start 12 let x 1 " + WAITING + " case notify false close case notify ge end 15 let y 1 " + WAITING + "] 20 close";
        begun("notify", contract).transact(-5, 0, 12, 14, "notify").transact(0, 0, 12, 15, "notify").is(Check.n("y"), "name", 0, 3, 0, false);
        begun("notify", contract).transact(0, 0, 11, 15, "notify").is(Check.n("x"), "name", 0, 3, 0, false);
    }

    static void firstCaseThatTakes() {
        Check c = begun("the first case", "when [case choice x ada [1 5] let a 1 " + WAITING + " case choice x ada [3 9] let b 1 " + WAITING
                + " case deposit bob ada gold 2 let c 1 " + WAITING + " case deposit bob ada gold 2 let d 1 " + WAITING + "] 20 close");
        c.is(0, "begin", 1, 0, 10L).is(0, "begin", 2, 0, 10L);
        c.transact(0, 0, 10, 10, "choice x ada 4").is(Check.n("a"), "name", 0, 3, 0, false);
        c.transact(0, 1, 10, 10, "choice x ada 6").is(Check.n("b"), "name", 1, 3, 0, false);
        c.transact(0, 2, 10, 10, "deposit bob ada gold 2").is(Check.n("c"), "name", 2, 3, 0, false);
        begun("a close has no case", "close").transact(-5, 0, 10, 10, "notify");
    }

    static void poor() {
        String contract = "when [case deposit bob ada gold 1000 " + WAITING + " case deposit bob ada gold 1001 close case deposit bob eve gold 1 close] 20 close";
        Check c = begun("-7", contract).transact(-7, 0, 10, 10, "deposit bob ada gold 1001").transact(-7, 0, 10, 10, "deposit bob eve gold 1");
        c.transact(0, 0, 10, 10, "deposit bob ada gold 1000").is(1, "wallets").writes("0", "wallet", Check.n("ada"), Check.n("gold")).conserved();
    }

    static void depositOfWhatWasPaid() {
        Check c = begun("payments are in the wallets at once", "when [case deposit ada ada gold 1000 pay ada to eve gold 600 when [case deposit eve eve gold 600 "
                + "pay eve to ada gold 600 when [case deposit bob ada gold 601 close case deposit bob ada gold 600 close] 20 close] 20 close] 20 close");
        c.transact(-7, 0, 10, 10, "deposit ada ada gold 1000 deposit eve eve gold 600 deposit bob ada gold 601");
        c.transact(0, 0, 10, 10, "deposit ada ada gold 1000 deposit eve eve gold 600 deposit bob ada gold 600").is(4, "count", 0).conserved();
    }

    static void useless() {
        Check c = begun("-6", "when [case notify true when [case deposit ada ada gold 1 when [] 30 close] 20 close] 20 close");
        c.transact(-6, 0, 10, 19, "").transact(0, 0, 10, 10, "notify").transact(-6, 0, 10, 10, "").transact(0, 0, 10, 10, "deposit ada ada gold 1");
        c.transact(0, 0, 30, 30, "").transact(-6, 0, 30, 30, "").transact(-5, 0, 30, 30, "notify");
        begun("-6", "close").transact(-6, 0, 10, 10, "");
        begun("a case that leads to the same", "when [case notify true close] 20 close").transact(0, 0, 10, 10, "notify");
    }

    static void large() {
        String big = "1" + "0".repeat(299);
        for (String value : new String[] {"add " + NINES + " 1", "sub -" + NINES + " 1", "mul " + big + " 10", "mul -" + big + " 10", "neg add " + NINES + " " + NINES,
            "sub add " + NINES + " 1 1", "div mul " + big + " " + big + " " + big, "mul 0 add " + NINES + " 1", "cond eq add " + NINES + " 1 0 1 2",
            "cond or true gt add 1 " + NINES + " 1 1 2", "cond and false gt add 1 " + NINES + " 1 1 2", "mul 1" + "0".repeat(150) + " 1" + "0".repeat(150)}) {
            begun("-8", "let x " + value + " close").transact(-8, 0, 10, 10, "").is(0, "state", 0, 3);
            begun("-8", "assert eq 1 " + value + " close").transact(-8, 0, 10, 10, "");
            begun("-8", "pay ada to ada gold " + value + " close").transact(-8, 0, 10, 10, "");
            Check c = begun("-8", "when [case choice x ada [1 1] let y 1 close case deposit ada ada gold " + value + " close case deposit ada ada gold 1 close case notify eq 1 "
                    + value + " close case notify true close] 20 close");
            c.transact(-8, 0, 10, 10, "deposit ada ada gold 1").transact(-8, 0, 10, 10, "notify");
            // values of cases are worked out for inputs of their own sort and names alone
            c.transact(-5, 0, 10, 10, "deposit ada bob gold 1").transact(0, 0, 10, 10, "choice x ada 1");
        }
        for (String value : new String[] {NINES, "neg " + NINES, "add " + NINES + " 0", "sub " + NINES + " 1", "cond true 1 add " + NINES + " 1", "cond false add " + NINES + " 1 1",
            "mul " + big + " 9", "mul 1" + "0".repeat(149) + " 1" + "0".repeat(150), "div " + NINES + " 0", "add neg " + NINES + " " + NINES}) {
            begun("300 digits", "let x " + value + " " + WAITING).transact(0, 0, 10, 10, "").is(1, "state", 0, 3);
        }
    }

    /** A row of whens, each with one deposit to the account of another party. */
    static String depositsOf(int from, int to, String last) {
        StringBuilder head = new StringBuilder();
        StringBuilder tail = new StringBuilder();
        for (int i = from; i < to; i++) {
            head.append("when[case deposit p").append(i).append(" ada gold 1 ");
            tail.append("]9 close");
        }
        return head + last + tail;
    }

    static String inputsOf(int from, int to) {
        StringBuilder b = new StringBuilder();
        for (int i = from; i < to; i++) b.append("deposit p").append(i).append(" ada gold 1 ");
        return b.toString();
    }

    static void wideAccounts() {
        Check c = new Check("-9 accounts").mint("ada", "gold", 1000).keep(0, depositsOf(0, 41, WAITING)).is(0, "begin", 0, 0, 0L);
        c.transact(0, 0, 0, 0, inputsOf(0, 40)).is(40, "state", 0, 1).transact(-9, 0, 0, 0, inputsOf(40, 41)).is(40, "state", 0, 1).conserved();
        // 40 accounts go to one wallet each when time is over: that is no payment too many
        c.transact(0, 0, 9, 9, "").is(40, "count", 0).is(41, "wallets").conserved();
        // paying into one more account goes if the payer's own goes first
        c = new Check("-9 accounts").mint("ada", "gold", 1000).keep(0, depositsOf(0, 40, "pay p0 into q gold 1 pay q into q gold 1 " + WAITING)).is(0, "begin", 0, 0, 0L);
        c.transact(0, 0, 0, 0, inputsOf(0, 40)).is(40, "state", 0, 1);
        c = new Check("-9 accounts").mint("ada", "gold", 1000).keep(0, depositsOf(0, 40, WAITING).replaceFirst("gold 1 ", "gold 2 ")
                .replace(WAITING, "pay p0 into q gold 1 " + WAITING)).is(0, "begin", 0, 0, 0L);
        c.transact(-9, 0, 0, 0, inputsOf(0, 40).replaceFirst("gold 1", "gold 2")).is(0, "state", 0, 1);
    }

    static void wideChoicesAndLets() {
        StringBuilder lets = new StringBuilder();
        for (int i = 0; i < 40; i++) lets.append("let a").append(i).append(" 1 ");
        begun("-9 lets", lets + WAITING).transact(0, 0, 10, 10, "").is(40, "state", 0, 3);
        begun("-9 lets", lets + "let a7 2 let a39 2 " + WAITING).transact(0, 0, 10, 10, "").is(40, "state", 0, 3).is(2, "count", 1);
        begun("-9 lets", lets + "let b 1 " + WAITING).transact(-9, 0, 10, 10, "").is(0, "state", 0, 3);
        StringBuilder head = new StringBuilder();
        StringBuilder tail = new StringBuilder();
        StringBuilder inputs = new StringBuilder();
        for (int i = 0; i < 40; i++) {
            head.append("when [case choice c").append(i).append(" ada [1 1] ");
            tail.append("] 20 close");
            inputs.append("choice c").append(i).append(" ada 1 ");
        }
        Check c = begun("-9 choices", head + "when [case choice c3 ada [2 2] " + WAITING + " case choice c3 bob [2 2] " + WAITING + "] 20 close" + tail);
        c.transact(0, 0, 10, 10, inputs.toString()).is(40, "state", 0, 2).transact(-9, 0, 10, 10, "choice c3 bob 2").transact(0, 0, 10, 10, "choice c3 ada 2");
        c.is(40, "state", 0, 2);
    }

    static void widePaymentsAndWarnings() {
        for (int n : new int[] {60, 61}) {
            String pays = "pay ada to bob gold 1 ".repeat(n);
            Check c = begun("-9 payments", "when [case deposit ada ada gold 900 " + pays + WAITING + "] 20 close");
            c.transact(n == 60 ? 0 : -9, 0, 10, 10, "deposit ada ada gold 900").is(n == 60 ? 60 : 0, "count", 0).conserved();
            for (String warned : new String[] {"pay ada to bob gold 0 ", "pay ada to bob gold 1 ", "assert false ", "let x 1 "}) {
                int times = warned.startsWith("let") ? n + 1 : n;
                c = begun("-9 warnings", warned.repeat(times) + WAITING).transact(n == 60 ? 0 : -9, 0, 10, 10, "").is(n == 60 ? 60 : 0, "count", 1);
            }
        }
        // 30 accounts that are closed behind 31 payments are one too many
        Check c = new Check("-9 payments of a close").mint("ada", "gold", 100).keep(0, depositsOf(0, 30, "pay p0 into p0 gold 1 ".repeat(31) + "close")).is(0, "begin", 0, 0, 0L);
        c.transact(-9, 0, 0, 0, inputsOf(0, 30));
        c = new Check("payments of a close").mint("ada", "gold", 100).keep(0, depositsOf(0, 30, "pay p0 into p0 gold 1 ".repeat(30) + "close")).is(0, "begin", 0, 0, 0L);
        c.transact(0, 0, 0, 0, inputsOf(0, 30)).is(60, "count", 0).is(1, "state", 0, 5);
        // the 61st warning of a deposit
        c = begun("-9 warnings", "assert false ".repeat(60) + "when [case deposit ada ada gold 0 close] 20 close").transact(-9, 0, 10, 10, "deposit ada ada gold 0");
        c.transact(0, 0, 10, 10, "").transact(0, 0, 10, 10, "deposit ada ada gold 0").is(1, "count", 1);
    }

    static void whichRefusalIsFirst() {
        String big = "add " + NINES + " 1";
        begun("the first that is met", "let x 1 when [case notify true let y " + big + " close] 20 close").transact(-5, 0, 10, 10, "choice x ada 1 notify")
                .transact(-8, 0, 10, 10, "notify choice x ada 1").transact(-4, 0, 10, 20, "notify").transact(-8, 0, 10, 10, "notify notify");
        begun("the first that is met", "when [case deposit ada bob gold 1 let y " + big + " close] 20 close").transact(-7, 0, 10, 10, "deposit ada bob gold 1");
        begun("the first that is met", "when [case deposit ada ada gold 1 " + "assert false ".repeat(61) + "let y " + big + " close] 20 close")
                .transact(-9, 0, 10, 10, "deposit ada ada gold 1");
        begun("ambiguous behind an input", "when [case notify true when [] 12 close] 20 close").transact(-4, 0, 10, 15, "notify").transact(0, 0, 10, 11, "notify");
    }

    static void nothingIsChanged() {
        Check c = begun("refused", "when [case deposit ada ada gold 7 let x 1 when [case choice c ada [1 1] close] 15 close] 20 close");
        c.transact(-5, 0, 10, 10, "deposit ada ada gold 7 choice c ada 2").is(10, "state", 0, 0).is(0, "state", 0, 1).is(0, "state", 0, 3);
        c.writes("1000", "wallet", Check.n("ada"), Check.n("gold")).is(0, "count", 0).is(4, "told", 4);
        c.writes("when [ case deposit ada ada gold 7 let x 1 when [ case choice c ada [ 1 1 ] close ] 15 close ] 20 close", "rest", 0);
    }

    static void latest() {
        Check c = begun("promises 21 to 24", "when [case deposit ada ada gold 7 pay ada to bob gold 8 close] 20 close").is(0, "begin", 1, 0, 0L);
        c.is(Check.ARGUMENT, "count", -1).is(Check.ARGUMENT, "count", 2).is(0, "count", 0).is(0, "count", 1);
        c.is(Check.INDEX, "payment", 0, 9).is(Check.INDEX, "warning", 0, 9).is(Check.INDEX, "amount", 0, false).is(Check.INDEX, "amount", 0, true);
        c.transact(0, 0, 10, 10, "deposit ada ada gold 7").is(1, "count", 0).is(1, "count", 1);
        c.is(Check.INDEX, "payment", 1, 9).is(Check.INDEX, "payment", -1, 0).is(Check.ARGUMENT, "payment", 0, 4).is(Check.ARGUMENT, "payment", 0, -1);
        c.is(Check.INDEX, "warning", 1, 9).is(Check.INDEX, "warning", -1, 0).is(Check.ARGUMENT, "warning", 0, 4).is(Check.ARGUMENT, "warning", 0, -1);
        c.is(Check.INDEX, "amount", 1, false).is(Check.INDEX, "amount", 1, true).is(Check.INDEX, "amount", -1, true).is(Check.INDEX, "amount", Integer.MIN_VALUE, false);
        // told till the next one that is DONE, of any instance
        c.transact(-6, 0, 10, 10, "").transact(-5, 1, 10, 10, "notify").payment(0, 0, "ada", "bob", "gold", "7").warning(0, 3, "ada", "bob", "gold", "8");
        c.transact(0, 1, 20, 20, "").is(0, "count", 0).is(0, "count", 1).is(Check.INDEX, "payment", 0, 0).is(Check.INDEX, "amount", 0, true);
        // a warning of kind 5 writes an empty out
        c = begun("promise 23", "assert false close").transact(0, 0, 10, 10, "");
        c.text("abc").is(3, "show").writes("", "amount", 0, true).is(0, "size");
    }
}
