/** Promises 12 to 20, but for what transactions do: parameters, begin, end, rest, state, entry, name. */
public final class InstancesTest {
    static final String NINES = "9".repeat(300);

    public static void main(String[] args) {
        parameters();
        beginning();
        parametersOfAnInstance();
        ending();
        rest();
        state();
        entriesAndNames();
        Check.finish();
    }

    static void parameters() {
        Check c = new Check("promises 12, 13");
        long fee = Check.n("fee");
        c.text("5").is(1, "parameter", fee).is(1, "told", 6).text("-0006").is(1, "parameter", fee).text(NINES).is(2, "parameter", Check.n("a"));
        // what is no NAME
        for (long bad : new long[] {0, 1, -1, Long.MAX_VALUE, Long.MIN_VALUE, Check.n("to"), Check.n("false"), Check.n("1a"), Check.n("Ab"),
            Check.n("a b"), Check.n("a_"), 0x6100, 0x610061, 0x6161616161616180L, 0xe161616161616161L, 0x3961L}) {
            c.text("1").is(Check.ARGUMENT, "parameter", bad).is(0, "told", 2).is(2, "told", 6);
        }
        c.text("1").is(3, "parameter", Check.n("abcdefg8")).text("1").is(4, "parameter", Check.n("zzzzzzzz"));
        c.text("1 2").is(-1, "parameter", fee).text("").is(-1, "parameter", fee).text("x").is(-1, "parameter", fee).is(4, "told", 6);
        c.text("1" + NINES).is(-1, "parameter", fee).is(2, "fault", false);
        for (int i = 4; i < 20; i++) c.text("" + i).is(i + 1, "parameter", Check.n("p" + i));
        c.text("1").is(-9, "parameter", Check.n("more")).is(20, "told", 6).is(0, "fault", false);
        c.text("1").is(20, "parameter", Check.n("p19")).text("1").is(20, "parameter", Check.n("a")).text("1").is(20, "parameter", Check.n("zzzzzzzz"));
        c.is(20, "forget").is(0, "told", 6).is(0, "forget").text("1").is(1, "parameter", Check.n("more"));
    }

    static void beginning() {
        Check c = new Check("promise 14");
        c.keep(0, "close").keep(1, "when [] ?t let x ?fee close");
        c.is(Check.INDEX, "begin", -1, 0, -1L).is(Check.INDEX, "begin", 16, 0, 0L).is(Check.INDEX, "begin", 0, 16, 0L).is(Check.INDEX, "begin", 0, -1, -1L);
        c.is(Check.ARGUMENT, "begin", 0, 0, -1L).is(Check.ARGUMENT, "begin", 0, 9, 1000000000000001L).is(Check.ARGUMENT, "begin", 0, 0, Long.MIN_VALUE);
        c.is(Check.STATE, "begin", 0, 9, 0L).is(0, "begin", 0, 0, 1000000000000000L).is(Check.STATE, "begin", 0, 0, 0L).is(1, "told", 1);
        c.is(0, "begin", 15, 0, 0L).is(2, "told", 1).is(-11, "begin", 1, 1, 0L);
        c.set("t", 5).is(-11, "begin", 1, 1, 0L).set("fee", "-7").is(0, "begin", 1, 1, 0L);
        c.set("t", -1).is(-11, "begin", 2, 1, 0L).set("t", "1000000000000001").is(-11, "begin", 2, 1, 0L).set("t", NINES).is(-11, "begin", 2, 1, 0L);
        c.set("t", "18446744073709551616").is(-11, "begin", 2, 1, 0L).set("t", "1000000000000000").is(0, "begin", 2, 1, 0L);
        c.set("t", "0").is(0, "begin", 3, 1, 7L).is(5, "told", 1);
    }

    static void parametersOfAnInstance() {
        Check c = new Check("promise 14");
        c.keep(0, "when [] ?t let x ?fee when [] 99 close").set("t", 5).set("fee", 8).set("zz", 1).is(0, "begin", 0, 0, 0L);
        // what is told later does not matter to it
        c.set("fee", 9).is(3, "forget").transact(-4, 0, 4, 5, "").transact(0, 0, 5, 6, "").writes("8", "entry", 0, 3, 0);
        c.is(3, "state", 0, 4).writes("5", "entry", 0, 4, 0).writes("1", "entry", 0, 4, 1).writes("8", "entry", 0, 4, 2);
        c.is(Check.n("t"), "name", 0, 4, 0, false).is(Check.n("zz"), "name", 0, 4, 1, false).is(Check.n("fee"), "name", 0, 4, 2, false);
        c.is(-11, "begin", 1, 0, 0L);
    }

    static void ending() {
        Check c = new Check("promise 15");
        c.is(Check.INDEX, "end", -1).is(Check.INDEX, "end", 16).is(Check.STATE, "end", 0);
        c.keep(0, "when [case deposit ada ada gold 1 close] 9 close").mint("ada", "gold", 1).is(0, "begin", 0, 0, 0L).is(Check.STATE, "end", 0);
        c.transact(0, 0, 0, 0, "deposit ada ada gold 1").is(0, "end", 0).is(0, "told", 1).is(Check.STATE, "end", 0).is(Check.STATE, "rest", 0);
        // a close that is not reduced yet, but has no accounts
        c.keep(1, "close").is(0, "begin", 0, 1, 0L).is(0, "end", 0).is(0, "begin", 0, 0, 3L).is(3, "state", 0, 0);
        c.conserved();
    }

    static void rest() {
        Check c = new Check("promise 17");
        c.is(Check.INDEX, "rest", -1).is(Check.INDEX, "rest", 16).is(Check.STATE, "rest", 0);
        c.keep(0, "let x 1 when [ case choice x ada [ 1 2 ] if chose x ada close let y 2 close case notify true close ] 0005 when [ ] ?t (close)");
        c.set("t", 9).is(0, "begin", 2, 0, 0L);
        c.writes("let x 1 when [ case choice x ada [ 1 2 ] if chose x ada close let y 2 close case notify true close ] 5 when [ ] ?t close", "rest", 2);
        c.transact(0, 2, 0, 4, "").writes("when [ case choice x ada [ 1 2 ] if chose x ada close let y 2 close case notify true close ] 5 when [ ] ?t close", "rest", 2);
        c.transact(0, 2, 5, 6, "").writes("when [ ] ?t close", "rest", 2).transact(0, 2, 9, 9, "").writes("close", "rest", 2);
    }

    static void state() {
        Check c = new Check("promise 18");
        c.is(Check.INDEX, "state", -1, 9).is(Check.INDEX, "state", 16, 0).is(Check.ARGUMENT, "state", 0, -1).is(Check.ARGUMENT, "state", 0, 6).is(Check.STATE, "state", 0, 0);
        c.keep(0, "let b 1 let a 2 when [case deposit ada bob gold 3 when [case choice x ada [0 9] when [] 50 close] 40 close] 30 close");
        c.mint("bob", "gold", 9).set("p", 4).is(0, "begin", 0, 0, 6L);
        for (int what = 1; what < 6; what++) c.is(what == 4 ? 1 : 0, "state", 0, what);
        c.is(6, "state", 0, 0).transact(0, 0, 2, 7, "deposit ada bob gold 3 choice x ada 9").is(6, "state", 0, 0);
        c.is(1, "state", 0, 1).is(1, "state", 0, 2).is(2, "state", 0, 3).is(1, "state", 0, 4).is(0, "state", 0, 5);
        c.transact(0, 0, 60, 60, "").is(60, "state", 0, 0).is(0, "state", 0, 1).is(1, "state", 0, 2).is(2, "state", 0, 3).is(1, "state", 0, 5);
    }

    static void entriesAndNames() {
        Check c = new Check("promises 19, 20");
        for (String call : new String[] {"entry", "name"}) {
            c.is(Check.INDEX, call, args(call, -1, 9, 9)).is(Check.INDEX, call, args(call, 16, 1, 0)).is(Check.ARGUMENT, call, args(call, 0, 0, 0));
            c.is(Check.ARGUMENT, call, args(call, 0, 5, -1)).is(Check.STATE, call, args(call, 0, 1, 0)).is(Check.STATE, call, args(call, 0, 1, -1));
        }
        c.keep(0, "let zz 1 let b neg 5 let aa1 7 when [case deposit bob ada oil 2 when [case deposit bob ada gold 1 when [case deposit ada ada zinc 3 "
                + "when [case choice y bob [1 9] when [case choice y ada [1 9] when [case choice x eve [-9 9] when [] 9 close] 9 close] 9 close] 9 close] 9 close] 9 "
                + "close] 9 close");
        c.mint("ada", "oil", 5).mint("ada", "gold", 5).mint("ada", "zinc", 5).set("q", "-1").set("p", NINES).is(0, "begin", 4, 0, 0L);
        c.transact(0, 4, 0, 8, "deposit bob ada oil 2 deposit bob ada gold 1 deposit ada ada zinc 3 choice y bob 4 choice y ada 5 choice x eve -6");
        entry(c, 1, 0, "ada", "zinc", "3");
        entry(c, 1, 1, "bob", "oil", "2");
        entry(c, 1, 2, "bob", "gold", "1");
        entry(c, 2, 0, "x", "eve", "-6");
        entry(c, 2, 1, "y", "ada", "5");
        entry(c, 2, 2, "y", "bob", "4");
        // in the order of their numbers a shorter NAME is before a longer one
        entry(c, 3, 0, "b", "", "-5");
        entry(c, 3, 1, "zz", "", "1");
        entry(c, 3, 2, "aa1", "", "7");
        entry(c, 4, 0, "p", "", NINES);
        entry(c, 4, 1, "q", "", "-1");
        for (String call : new String[] {"entry", "name"}) {
            for (int what = 1; what < 5; what++) {
                c.is(Check.INDEX, call, args(call, 4, what, what == 4 ? 2 : 3)).is(Check.INDEX, call, args(call, 4, what, -1));
                c.is(Check.INDEX, call, args(call, 4, what, Integer.MAX_VALUE));
            }
        }
    }

    static Object[] args(String call, int i, int what, int e) {
        return call.equals("entry") ? new Object[] {i, what, e} : new Object[] {i, what, e, true};
    }

    static void entry(Check c, int what, int e, String first, String second, String number) {
        c.is(Check.n(first), "name", 4, what, e, false).is(Check.n(second), "name", 4, what, e, true).writes(number, "entry", 4, what, e);
    }
}
