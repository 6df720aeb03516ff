/** Promises 31 to 36: fuse, peek, poke, cut, recover, told. */
public final class JournalTest {
    // Reckoned apart from the program: a record of each kind, one behind the other.
    static final String FORGET = "0007082a967640";
    static final String PARAMETER = "00110700000000006665652d35e2f46e38";
    static final String KEEP = "001c0100000000000000037768656e5b5d3920636c6f7365c09f1310";
    static final String MINT = "001905000000000061646100000000676f6c64203764ff390a";
    static final String BEGIN = "001f03000000000000000f00000000000000030000000000000004f0e9d702";
    static final String TRANSACT = "002106000000000000000f0000000000000009000000000000000c200a6b846ee0";
    static final String END = "000f04000000000000000f9c772312";
    static final String DROP = "000f0200000000000000031a124ba7";

    public static void main(String[] args) {
        recordsOfAllKinds();
        wrongCalls();
        whatWritesNoRecord();
        fuseAtEveryByte();
        fuseOverSeveralRecords();
        nothingOlderBehind();
        full();
        spoiledRecords();
        forgedRecords();
        recoverWhenNotCut();
        recoverTakesAllAway();
        told();
        latestOfTheLastOne();
        Check.finish();
    }

    static Check written() {
        Check c = new Check("records");
        c.is(0, "forget").text("-5").is(1, "parameter", Check.n("fee")).text("when[]9 close").is(2, "keep", 3).mint("ada", "gold", " 7");
        return c.is(0, "begin", 15, 3, 4L).text(" \n").is(0, "transact", 15, 9L, 12L).is(0, "end", 15).is(0, "drop", 3);
    }

    static void diskIs(Check c, String hex) {
        for (int i = 0; i < hex.length() / 2; i++) c.is(Integer.parseInt(hex.substring(2 * i, 2 * i + 2), 16), "peek", i);
    }

    static void recordsOfAllKinds() {
        Check c = written();
        diskIs(c, FORGET + PARAMETER + KEEP + MINT + BEGIN + TRANSACT + END + DROP + "0000000000");
        c.is(171, "told", 3).is(8, "told", 4).is(8, "recover").is(171, "told", 3).is(8, "told", 4).is(1, "told", 6).is(0, "told", 0);
        diskIs(c, FORGET + PARAMETER + KEEP + MINT + BEGIN + TRANSACT + END + DROP + "0000000000");
    }

    static void wrongCalls() {
        Check c = new Check("promises 31 to 36");
        c.is(Check.ARGUMENT, "fuse", -2).is(Check.ARGUMENT, "fuse", Integer.MIN_VALUE).is("void", "fuse", -1).is("void", "fuse", Integer.MAX_VALUE);
        c.is(Check.INDEX, "peek", -1).is(Check.INDEX, "peek", 16384).is(0, "peek", 16383).is(0, "peek", 0);
        c.is(Check.INDEX, "poke", -1, 256).is(Check.INDEX, "poke", 16384, 0).is(Check.ARGUMENT, "poke", 0, 256).is(Check.ARGUMENT, "poke", 0, -1).is(Check.STATE, "poke", 0, 1);
        c.is(Check.ARGUMENT, "told", -1).is(Check.ARGUMENT, "told", 8).is("void", "cut").is(Check.STATE, "cut").is(1, "told", 7);
        c.is(Check.INDEX, "poke", 16384, 256).is(Check.ARGUMENT, "poke", 0, 256).is(0, "poke", 0, 255).is(255, "poke", 0, 128).is(128, "peek", 0);
        c.is(0, "recover").is(0, "told", 7).is(Check.STATE, "poke", 0, 1).is(128, "peek", 0);
    }

    static void whatWritesNoRecord() {
        Check c = new Check("refused calls write nothing").keep(0, "when [] ?t close");
        c.text("x").is(-1, "keep", 1).is(-11, "begin", 0, 0, 0L).text("0").is(-5, "mint", Check.n("ada"), Check.n("gold")).text("").is(-1, "parameter", Check.n("x"));
        c.is(Check.STATE, "end", 0).is(Check.STATE, "drop", 1).set("t", 4).is(0, "begin", 0, 0, 0L).transact(-6, 0, 0, 0, "").is(3, "told", 4);
        c.ask("print", 0);
        c.ask("look", 0, false, 31, 9);
        c.is(3, "told", 4).is(3, "recover").is(1, "told", 1);
    }

    static void fuseAtEveryByte() {
        // FORGET is there already; a keep of 28 bytes comes
        for (int fuse = 0; fuse <= 29; fuse++) {
            Check c = new Check("fuse " + fuse);
            c.is(0, "forget").is("void", "cut");
            for (int i = 7; i < 60; i++) c.is(0, "poke", i, 8);
            c.is(1, "recover").is("void", "fuse", fuse).text("when[]9 close");
            if (fuse >= 28) {
                c.is(2, "keep", 3).is(0, "told", 7).is(2, "told", 4).is(35, "told", 3);
                c.is(1, "told", 0).is(Check.STATE, "forget").is(2, "recover");
                continue;
            }
            c.is(Check.STATE, "keep", 3).is(1, "told", 7).is(0, "told", 0).is(0, "told", 2).is(1, "told", 4).is(7, "told", 3).is(0, "told", 5).is(0, "fault", false);
            String keep = "001c0100000000000000037768656e5b5d3920636c6f7365";
            for (int i = 0; i < 28; i++) {
                int due = i == 2 ? 0 : i >= fuse ? 8 : -1;
                if (due >= 0) c.is(due, "peek", 7 + i);
                else if (2 * i < keep.length()) c.is(Integer.parseInt(keep.substring(2 * i, 2 * i + 2), 16), "peek", 7 + i);
            }
            // the KIND behind the record becomes 0 whatever the fuse is; it does not count
            c.is(8, "peek", 36).is(0, "peek", 37).is(8, "peek", 38).is(1, "recover").is(0, "told", 7);
            // there is no fuse then
            c.text("when[]9 close").is(2, "keep", 3).is(2, "recover").is(1, "told", 0);
        }
    }

    static void fuseOverSeveralRecords() {
        Check c = new Check("promise 31");
        c.is("void", "fuse", 14).is(0, "forget").is(0, "forget").is(Check.STATE, "forget").is(1, "told", 7).is(2, "recover");
        c.is("void", "fuse", 0).is("void", "fuse", -1).is(0, "forget").is("void", "fuse", 6).is("void", "fuse", 7).is(0, "forget").is(Check.STATE, "forget").is(4, "recover");
        // what writes no record does not end it
        c.is("void", "fuse", 0).text("x").is(-1, "keep", 0).is(0, "told", 7).text("close").is(Check.STATE, "keep", 0).is(1, "told", 7);
    }

    static void nothingOlderBehind() {
        Check c = new Check("older records");
        c.text("1").is(1, "parameter", Check.n("a")).text("2").is(2, "parameter", Check.n("b")).text("3").is(3, "parameter", Check.n("c"));
        int was = Integer.parseInt(c.ask("peek", 11));
        c.is("void", "cut").is(was, "poke", 11, was ^ 1).is(0, "recover").is(0, "told", 6);
        // as long as the first one was: the second one would stand right behind it
        c.text("9").is(1, "parameter", Check.n("a")).is(1, "recover").is(1, "told", 6).is(16, "told", 3);
        c.text("9").is(2, "parameter", Check.n("b")).is(2, "recover").is(2, "told", 6);
    }

    static void full() {
        // 15 bytes and the text
        Check c = new Check("-10");
        c.text("1" + " ".repeat(16368)).is(1, "parameter", Check.n("a")).is(16384, "told", 3).is(-10, "forget").is(1, "told", 6).is(1, "recover").is(16384, "told", 3);
        c.is("void", "fuse", 0).is(-10, "forget").is(0, "told", 7);
        // the KIND behind it would be the last byte of the disk, or the one that is none any more
        for (int free = 1; free < 5; free++) {
            c = new Check("near the end").text("1" + " ".repeat(16368 - free)).is(1, "parameter", Check.n("a")).is(16384 - free, "told", 3).is(-10, "forget").is(1, "recover");
        }
        c = new Check("-10").text("1" + " ".repeat(16369)).is(-10, "parameter", Check.n("a")).is(0, "told", 6).is(0, "told", 4).is(0, "fault", false);
        // six bytes are left: no record of any kind
        c = new Check("-10").keep(0, "close").mint("ada", "gold", 5).keep(1, "when [case deposit ada ada gold 5 close] 9 close").is(0, "begin", 0, 0, 0L).is(0, "begin", 1, 1, 0L).set("p", 1);
        int used = Integer.parseInt(c.ask("told", 3));
        c.text("1" + " ".repeat(16384 - 6 - 16 - used)).is(2, "parameter", Check.n("q")).is(16378, "told", 3);
        c.text("close").is(-10, "keep", 5).is(-10, "drop", 0).is(-10, "begin", 5, 0, 0L).is(-10, "end", 0).text("1").is(-10, "mint", Check.n("ada"), Check.n("gold"));
        c.transact(-10, 1, 0, 0, "deposit ada ada gold 5").text("1").is(-10, "parameter", Check.n("p")).is(-10, "forget");
        c.is(2, "told", 0).is(2, "told", 1).is(2, "told", 6).writes("5", "wallet", Check.n("ada"), Check.n("gold")).is(0, "count", 0).writes("5", "total", Check.n("gold"), 3);
        // all else is looked at first
        c.text("x").is(-1, "keep", 5).text("0").is(-5, "mint", Check.n("ada"), Check.n("gold")).transact(-6, 1, 0, 0, "").is(Check.STATE, "end", 1);
    }

    static void spoiledRecords() {
        // any byte of the last record that is another one makes it none
        Check c = written();
        for (int at = 156; at < 171; at++) {
            int was = Integer.parseInt(c.ask("peek", at));
            c.is("void", "cut").is(was, "poke", at, was ^ 64).is(7, "recover").is(156, "told", 3).is(1, "told", 0);
            c.is("void", "cut").is(was ^ 64, "poke", at, was).is(8, "recover").is(0, "told", 0);
        }
        // the place on the disk is of the CHECK: a record that is moved is none
        c = new Check("CHECK").is(0, "forget").is("void", "cut");
        for (int i = 0; i < 7; i++) c.ask("poke", 7 + i, Integer.parseInt(FORGET.substring(2 * i, 2 * i + 2), 16));
        c.is(1, "recover");
    }

    /** Records that are well written, but can't be ones, or can't be done. */
    static void forgedRecords() {
        forged("L for the KIND", 0, 8, new long[0], " ");
        forged("L for the KIND", 0, 2, new long[] {0}, " ");
        forged("L for the KIND", 0, 3, new long[] {0, 0}, "");
        forged("L for the KIND", 0, 4, new long[] {0}, "x");
        forged("L for the KIND", 0, 1, new long[0], "close");
        forged("KIND", 0, 0, new long[0], "");
        forged("KIND", 0, 9, new long[0], "");
        forged("KIND", 0, 200, new long[0], "");
        forged("contract", 0, 1, new long[] {16}, "close");
        forged("contract", 0, 1, new long[] {-1}, "close");
        forged("contract", 0, 1, new long[] {1L << 32}, "close");
        forged("there is one", 0, 1, new long[] {3}, "close");
        forged("fault", 0, 1, new long[] {4}, "cloze");
        forged("fault", 0, 1, new long[] {4}, "");
        forged("instance", 0, 3, new long[] {16, 3, 0}, "");
        forged("instance", 0, 3, new long[] {1L << 33, 3, 0}, "");
        forged("time", 0, 3, new long[] {1, 3, -1}, "");
        forged("no contract", 0, 3, new long[] {1, 1, 0}, "");
        forged("not over", 0, 4, new long[] {0}, "");
        forged("none such", 0, 2, new long[] {5}, "");
        forged("no NAME", 0, 5, new long[] {0, Check.n("gold")}, "1");
        forged("no NUMBER", 0, 5, new long[] {Check.n("ada"), Check.n("gold")}, "");
        forged("-5", 0, 5, new long[] {Check.n("ada"), Check.n("gold")}, "0");
        forged("-6", 0, 6, new long[] {0, 0, 0}, "");
        forged("-2", 0, 6, new long[] {0, 1, 0}, "");
        forged("not begun", 0, 6, new long[] {1, 0, 0}, "");
        forged("no NAME", 0, 7, new long[] {Check.n("if")}, "1");
        forged("good", 1, 8, new long[0], "");
        forged("good", 1, 7, new long[] {Check.n("p")}, " 1 ");
        forged("good", 1, 1, new long[] {4}, "(close)");
        forged("good", 1, 5, new long[] {Check.n("ada"), Check.n("gold")}, "2");
        forged("good", 1, 6, new long[] {0, 9, 9}, "");
        forged("good", 1, 2, new long[] {3}, "");
        forged("good", 1, 3, new long[] {15, 3, 1000000000000000L}, "");
    }

    /** Puts a record with a right CHECK behind two others; says whether it is done again. */
    static void forged(String why, int due, int kind, long[] numbers, String text) {
        Check c = new Check("a forged record: " + why).keep(3, "when [] 9 close").is(0, "begin", 0, 3, 0L);
        int at = Integer.parseInt(c.ask("told", 3));
        int length = 7 + 8 * numbers.length + text.length();
        int[] b = new int[length];
        b[1] = length;
        b[2] = kind;
        int n = 3;
        for (long number : numbers) for (int shift = 56; shift >= 0; shift -= 8) b[n++] = (int) (number >>> shift) & 255;
        for (char x : text.toCharArray()) b[n++] = x;
        int check = (int) 2166136261L;
        for (int i = 0; i < length - 4; i++) check = (check ^ b[i]) * 16777619;
        for (int shift = 24; shift >= 0; shift -= 8) check = (check ^ (at >>> shift & 255)) * 16777619;
        for (int shift = 24; shift >= 0; shift -= 8) b[n++] = check >>> shift & 255;
        c.is("void", "cut");
        for (int i = 0; i < length; i++) c.is(0, "poke", at + i, b[i]);
        c.is(2 + due, "recover").is(at + due * length, "told", 3).is(2 + due, "told", 4).is(0, "told", 2).is(-1, "fault", false);
        // what is written next stands where that record did
        if (due == 0) c.is(0, "forget").is(7, "peek", at + 1).is(8, "peek", at + 2).is(3, "recover");
    }

    static void recoverWhenNotCut() {
        Check c = new Check("promise 35").is(0, "recover").is("void", "fuse", 0).text("abc").is(3, "show").is(0, "recover");
        c.is(0, "told", 2).is(0, "size").is(0, "forget").is(1, "recover").is(1, "recover").is(0, "told", 7);
    }

    static void recoverTakesAllAway() {
        Check c = new Check("promise 35").keep(0, "when [case deposit ada ada gold 3 assert false close] 9 close").is(0, "begin", 0, 0, 0L).mint("ada", "gold", 3).set("p", 1);
        c.transact(0, 0, 0, 0, "deposit ada ada gold 3").is(1, "count", 0).is(1, "count", 1).is(1, "look", 0, true, 31, 5).text("x").is(-1, "keep", 1).text("abc").is("void", "cut");
        for (int i = 0; i < 3; i++) c.ask("poke", i, 255);
        c.is(1, "told", 0).is(1, "told", 1).is(3, "told", 2).is(1, "told", 6).is(4, "fault", false);
        c.is(0, "recover");
        for (int what = 0; what < 8; what++) c.is(0, "told", what);
        c.is(0, "wallets").is(0, "count", 0).is(0, "count", 1).is(0, "tries").is(0, "size").is(-1, "fault", false).is(-1, "fault", true).writes("0", "total", Check.n("gold"), 3);
    }

    static void told() {
        Check c = new Check("promise 36").keep(0, "close").keep(7, "let x 1 close").is(0, "begin", 9, 7, 0L).set("a", 1).set("b", 2).text("xyz");
        int[] due = {2, 1, 3, 0, 5, 4, 2, 0};
        for (int what = 0; what < 8; what++) if (what != 3) c.is(due[what], "told", what);
        c.is(20 + 28 + 31 + 16 + 16, "told", 3).is(0, "drop", 0).is(1, "told", 0).is(4, "told", 5).is("void", "cut");
        for (int i = 0; i < 100; i++) c.ask("poke", i, 0);
        // what there was when it was cut
        due = new int[] {1, 1, 3, 126, 6, 4, 2, 1};
        for (int what = 0; what < 8; what++) c.is(due[what], "told", what);
        c.is(0, "recover").is(0, "told", 5);
    }

    static void latestOfTheLastOne() {
        Check c = new Check("payments behind recover()").mint("ada", "gold", 9).keep(0, "when [case deposit ada ada gold 4 pay ada to bob gold 5 close] 9 close");
        c.is(0, "begin", 0, 0, 0L).is(0, "begin", 1, 0, 0L).transact(0, 1, 0, 0, "deposit ada ada gold 4").transact(0, 0, 9, 9, "").is(0, "count", 0);
        int end = Integer.parseInt(c.ask("told", 3));
        c.is("void", "cut");
        c.ask("poke", end - 1, Integer.parseInt(c.ask("peek", end - 1)) ^ 1);
        c.is(5, "recover").is(1, "count", 0).payment(0, 0, "ada", "bob", "gold", "4").warning(0, 3, "ada", "bob", "gold", "5");
    }
}
