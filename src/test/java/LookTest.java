/** Promises 29 and 30: look, tries. */
public final class LookTest {
    static final String NINES = "9".repeat(300);

    public static void main(String[] args) {
        wrongCalls();
        orderOfTries();
        found();
        fuel();
        refusedTries();
        walletsDoNotMatter();
        fromAnInstance();
        parameters();
        startsOfTries();
        deepAndLong();
        Check.finish();
    }

    static void look(Check c, int due, int tries, String path, Object... args) {
        c.is(due, "look", args).is(tries, "tries").outIs(path);
    }

    static void wrongCalls() {
        Check c = new Check("promise 29");
        c.is(Check.INDEX, "look", -1, true, 0, -1).is(Check.INDEX, "look", 16, false, 1, 1).is(Check.ARGUMENT, "look", 0, true, 0, 1).is(Check.ARGUMENT, "look", 0, true, 32, 1);
        c.is(Check.ARGUMENT, "look", 0, false, 1, -1).is(Check.ARGUMENT, "look", 0, false, 1, 401).is(Check.ARGUMENT, "look", 0, false, -1, 1);
        c.is(Check.STATE, "look", 0, true, 1, 0).is(Check.STATE, "look", 0, false, 31, 400).is(0, "tries").keep(0, "close").is(Check.STATE, "look", 0, false, 1, 1);
        look(c, 0, 0, "", 0, true, 31, 0);
    }

    static void orderOfTries() {
        String whole = "when [case deposit ada bob gold 5 close case choice x ada [1 1 2 3] close case notify true close case notify false close "
                + "case deposit ada bob gold 0 close] 9 when [] 12 close";
        Check c = new Check("all tries").keep(0, whole);
        // deposit, 1, 2, 3, notify, deposit of 0, wait to 9, wait to 12
        look(c, 0, 8, "", 0, true, 30, 400);
        look(c, 1, 6, "deposit ada bob gold 0 at 0", 0, true, 1, 400);
        // each as far as it leads before the next one
        c.keep(1, "when [case notify true when [case choice x ada [7 8] let x 1 let x 2 close] 5 close case notify true assert false close] 9 assert false close");
        look(c, 1, 2, "notify at 0 choice x ada 7 at 0", 1, true, 31, 400);
        look(c, 1, 2, "notify at 0 choice x ada 7 at 0", 1, true, 8, 400);
        // the second notify is taken by the first case
        look(c, 1, 9, "wait 9", 1, true, 16, 400);
    }

    static void found() {
        Check c = new Check("FOUND").keep(0, "let x 1 when [case choice x ada [-2 4] if lt chosen x ada 0 close pay ada to bob gold chosen x ada close] 9 assert false close");
        look(c, 1, 3, "wait 0 choice x ada 4 at 0", 0, true, 4, 400);
        look(c, 1, 4, "wait 0 wait 9", 0, true, 16, 400);
        look(c, 1, 3, "wait 0 choice x ada 4 at 0", 0, true, 31, 400);
        look(c, 0, 4, "", 0, true, 1 | 2 | 8, 400);
        // the first try may be the one
        c.keep(1, "pay ada to bob gold 0 close");
        look(c, 1, 1, "wait 0", 1, true, 2, 1);
        look(c, 0, 1, "", 1, true, 1 | 4 | 8 | 16, 1);
    }

    static void fuel() {
        Check c = new Check("FUEL").keep(0, "when [case notify true close case notify true close] 9 assert false close");
        look(c, 2, 0, "", 0, true, 31, 0);
        look(c, 2, 1, "", 0, true, 31, 1);
        look(c, 2, 2, "", 0, true, 31, 2);
        look(c, 1, 3, "wait 9", 0, true, 31, 3);
        look(c, 0, 3, "", 0, true, 1, 3);
        // an out that was longer is gone
        c.text("abcdefgh").is(8, "show").is(0, "trim", 0);
        look(c, 0, 3, "", 0, true, 1, 400);
        // 8 tries and a wait each, five deep, are more than 400
        String one = "case choice x ada [1 2 3 4 5 6 7 8] ";
        c.keep(1, ("when [" + one).repeat(5) + "close" + "] 9 close".repeat(5));
        look(c, 2, 400, "", 1, true, 31, 400);
    }

    static void refusedTries() {
        String big = "add " + NINES + " 1";
        // a LARGE value is no try; a try that is refused takes fuel, and leads nowhere
        Check c = new Check("refused").keep(0, "when [case deposit ada bob gold " + big + " assert false close case notify eq 1 " + big
                + " assert false close case choice x ada [1 2] let y " + big + " assert false close] 9 close");
        look(c, 0, 3, "", 0, true, 31, 400);
        // an earlier case of the same names that is LARGE refuses the later one
        c.keep(1, "when [case deposit ada bob gold " + big + " close case deposit ada bob gold 1 assert false close] 9 close");
        look(c, 0, 2, "", 1, true, 31, 400);
        // warnings of a refused try are none
        c.keep(2, "when [] 9 assert false let y " + big + " close");
        look(c, 0, 1, "", 2, true, 31, 400);
        // an account that would be LARGE, and 61 warnings
        c.keep(3, "when [case deposit ada bob gold " + NINES + " when [case deposit ada bob gold " + NINES + " assert false close] 8 close] 9 close");
        look(c, 0, 4, "", 3, true, 31, 400);
        c.keep(4, "assert false ".repeat(61) + "close").keep(5, "assert false ".repeat(60) + "close");
        look(c, 0, 1, "", 4, true, 31, 400);
        look(c, 1, 1, "wait 0", 5, true, 31, 400);
    }

    static void walletsDoNotMatter() {
        Check c = new Check("wallets").keep(0, "when [case deposit ada bob gold 5 pay ada to eve gold 6 close] 9 close");
        look(c, 1, 1, "deposit ada bob gold 5 at 0", 0, true, 4, 9);
        c.is(0, "wallets").is(0, "count", 0).is(0, "count", 1).is(1, "told", 4);
        for (int i = 0; i < 60; i++) c.mint("p" + i, "gold", 1);
        look(c, 1, 1, "deposit ada bob gold 5 at 0", 0, true, 4, 9);
        c.is(60, "wallets").conserved();
    }

    static void fromAnInstance() {
        Check c = new Check("an instance").mint("ada", "gold", 9);
        c.keep(0, "when [case deposit ada ada gold 5 when [case choice x ada [1 2] if eq chosen x ada 2 pay ada to bob gold 6 close close] 20 let y 1 close] 10 let y 1 let y 2 close");
        c.is(0, "begin", 3, 0, 4L);
        look(c, 1, 3, "deposit ada ada gold 5 at 4 choice x ada 2 at 4", 3, false, 31, 400);
        c.transact(0, 3, 6, 8, "deposit ada ada gold 5");
        look(c, 1, 2, "choice x ada 2 at 6", 3, false, 31, 400);
        look(c, 0, 3, "", 3, false, 8, 400);
        // nothing of it is changed
        c.is(1, "state", 3, 1).is(0, "state", 3, 2).is(0, "state", 3, 3).is(6, "state", 3, 0).writes("5", "entry", 3, 1, 0);
        look(c, 1, 5, "wait 10", 0, true, 8, 400);
        c.transact(0, 3, 6, 6, "choice x ada 1");
        look(c, 0, 0, "", 3, false, 31, 0);
    }

    static void parameters() {
        Check c = new Check("-11").keep(0, "when [] ?t assert gt ?fee 1 close").keep(1, "assert false close");
        look(c, 1, 1, "wait 0", 1, true, 31, 9);
        // the out and tries() stay
        c.is(-11, "look", 0, true, 31, 9).is(1, "tries").is(6, "size").set("t", 7).is(-11, "look", 0, true, 31, 9).set("fee", 1);
        look(c, 1, 1, "wait 7", 0, true, 31, 9);
        c.is(0, "begin", 0, 0, 2L).is(2, "forget").is(-11, "look", 0, true, 31, 9);
        look(c, 1, 1, "wait 7", 0, false, 31, 9);
        c.set("t", -7).set("fee", 2).is(-11, "look", 0, true, 31, 9).is(1, "tries");
        c.is(Check.ARGUMENT, "look", 0, true, 0, 9).is(1, "tries").is(8, "recover").is(0, "tries").is(0, "size");
    }

    static void startsOfTries() {
        // whose time was: no QUIET one; the value of a deposit is worked out by LEAST TIME
        Check c = new Check("START").keep(0, "when [] 0 when [case deposit ada bob gold add start end when [] 5 close] 3 when [case notify eq start 3 assert false close] 8 close");
        c.is(0, "begin", 0, 0, 2L);
        look(c, 1, 5, "wait 2 wait 3 notify at 3", 0, false, 31, 400);
        c.keep(1, "when [case deposit ada bob gold sub add start end 4 when [] 5 close] 3 close").is(0, "begin", 1, 1, 2L);
        look(c, 1, 1, "deposit ada bob gold 0 at 2", 1, false, 31, 400);
    }

    static void deepAndLong() {
        Check c = new Check("long paths");
        // whens that are all passed by the first wait
        c.keep(0, "when [] 9 ".repeat(99) + "close");
        look(c, 0, 1, "", 0, true, 31, 400);
        // a try for each of the most whens that can stand in one another
        StringBuilder whens = new StringBuilder();
        StringBuilder waits = new StringBuilder();
        for (int i = 1; i <= 99; i++) {
            whens.append("when [] ").append(i).append(' ');
            waits.append("wait ").append(i).append(' ');
        }
        c.keep(1, whens + "when [] 100 close");
        look(c, 0, 100, "", 1, true, 31, 400);
        c.keep(2, "let x 1 " + whens.substring(0, whens.length() - 11) + "assert false close");
        look(c, 1, 99, "wait 0 " + waits.substring(0, waits.length() - 9), 2, true, 31, 400);
        tooLongForTheOut();
    }

    /** 49 deposits of 300 digits are more than the out takes: it has the first 16384 bytes. */
    static void tooLongForTheOut() {
        StringBuilder head = new StringBuilder("let big neg " + NINES + " ");
        StringBuilder path = new StringBuilder("wait 0");
        for (int i = 0; i < 49; i++) {
            head.append("when[case deposit abcdefg1 abcdefg2 abcdefg3 use big ");
            path.append(" deposit abcdefg1 abcdefg2 abcdefg3 -").append(NINES).append(" at 0");
        }
        Check c = new Check("a path that is too long").keep(0, head + "assert false close" + "]9 close".repeat(49));
        look(c, 1, 50, path.substring(0, 16384), 0, true, 16, 400);
    }
}
