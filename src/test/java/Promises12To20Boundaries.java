/** Promises 12 to 20: parameter, forget, begin, end, transact, rest, state, entry, name. */
final class Promises12To20Boundaries {
    static final String NINES = "9".repeat(300);
    static final long LAST = 1000000000000000L;
    static final long ADA = Check.n("ada");
    static final long GOLD = Check.n("gold");
    static final int[] NO_PLACES = {-1, 16, Integer.MIN_VALUE, Integer.MAX_VALUE};

    // ---- parameter

    static void promise12OneNumber() {
        Check c = new Check();
        Object[][] rows = {{"", 3, 0}, {" ", 3, 1}, {"x", 4, 0}, {"?x", 4, 0}, {"(1)", 4, 0}, {"close", 4, 0}, {"1 2", 9, 2}, {"1)", 9, 1}, {"1 !", 1, 2}, {"!", 1, 0}, {"-", 1, 0}, {"1" + NINES, 2, 0},
            {"1 1" + NINES, 2, 2}, {"1 close", 9, 2}};
        for (Object[] row : rows) c.refusesText(-1, (String) row[0], "parameter", ADA).is(row[1], "fault", false).is(row[2], "fault", true);
        for (String good : new String[] {"0", "-0", "1", "-1", NINES, "-" + NINES, "000", " 7 ", "\n7\u0000"}) c.text(good).is(1, "parameter", ADA).is(0, "fault", false).is(1, "told", 6);
    }

    static void promise12TokensOfANumber() {
        Check c = new Check();
        for (String token : Part2Boundaries.TOKENS) {
            if (token.equals("5")) c.text(token).is(1, "parameter", ADA);
            else c.refusesText(-1, token, "parameter", ADA).is(4, "fault", false).is(0, "fault", true);
            c.refusesText(-1, "7 " + token, "parameter", ADA).is(9, "fault", false).is(2, "fault", true);
        }
    }

    static void promise12TwentyAtMost() {
        Check c = new Check();
        for (int i = 0; i < 20; i++) c.text("1").is(i + 1, "parameter", Check.n("p" + i)).text("2").is(i + 1, "parameter", Check.n("p" + i));
        c.refusesText(-9, "1", "parameter", Check.n("p20")).refusesText(-9, "1", "parameter", Check.n("a")).refusesText(-9, "1", "parameter", Check.n("zzzzzzzz"));
        // a fault is looked at first; one that there is becomes another NUMBER
        c.refusesText(-1, "", "parameter", Check.n("p20")).text("3").is(20, "parameter", Check.n("p0")).text("3").is(20, "parameter", Check.n("p19")).is(20, "told", 6);
        c.is(20, "forget").text("1").is(1, "parameter", Check.n("p20"));
    }

    static void promise12WideBeforeFull() {
        Check c = new Check();
        for (int i = 1; i < 20; i++) c.set("p" + i, 1);
        c.fillTo(16380).is(20, "told", 6).refusesText(-9, "1", "parameter", Check.n("q")).refusesText(-10, "1", "parameter", Check.n("p1"));
    }

    static void promise12ForWhatIsBegunLater() {
        Check c = new Check().keep(0, "let x ?p when [] 9 close").set("p", 1).is(0, "begin", 0, 0, 0L).set("p", 2).is(0, "begin", 1, 0, 0L).is(1, "forget").is(-11, "begin", 2, 0, 0L);
        c.transact(0, 0, 0, 0, "").transact(0, 1, 0, 0, "").writes("1", "entry", 0, 3, 0).writes("2", "entry", 1, 3, 0).writes("1", "entry", 0, 4, 0).writes("2", "entry", 1, 4, 0);
    }

    static void promise12FullByOneByte() {
        for (int room = 15; room <= 17; room++) {
            Check c = new Check().fillTo(16384 - room);
            if (room < 16) c.refusesText(-10, "1", "parameter", ADA).is(1, "told", 6);
            else c.text("1").is(2, "parameter", ADA);
        }
    }

    // ---- forget

    static void promise13HowManyThereWere() {
        Check c = new Check().is(0, "forget").set("a", 1).is(1, "forget").is(0, "forget");
        for (int i = 0; i < 20; i++) c.set("p" + i, i);
        c.is(20, "forget").is(0, "told", 6).is(0, "forget");
    }

    static void promise13FullByOneByte() {
        for (int room = 6; room <= 8; room++) {
            Check c = new Check().fillTo(16384 - room);
            if (room < 7) c.refuses(-10, "forget").is(1, "told", 6);
            else c.is(1, "forget").is(0, "told", 6).is(2, "recover").is(0, "told", 6);
        }
    }

    // ---- begin

    static void promise14BeginsAt0To15() {
        Check c = new Check().keep(0, "close").keep(15, "when [] 9 close");
        for (int none : NO_PLACES) c.refuses(Check.INDEX, "begin", none, 0, 0L).refuses(Check.INDEX, "begin", 0, none, 0L).refuses(Check.INDEX, "begin", none, none, -1L);
        c.refuses(Check.STATE, "begin", 0, 1, 0L).refuses(Check.STATE, "begin", 0, 14, 0L).is(0, "begin", 0, 15, 0L).is(0, "begin", 15, 0, 0L).refuses(Check.STATE, "begin", 0, 0, 0L);
        c.refuses(Check.STATE, "begin", 15, 15, 0L).writes("when [ ] 9 close", "rest", 0).writes("close", "rest", 15);
    }

    static void promise14TimeIs0To1000000000000000() {
        Check c = new Check().keep(0, "close");
        for (long none : new long[] {-1, LAST + 1, Long.MIN_VALUE, Long.MAX_VALUE, 1L << 62}) c.refuses(Check.ARGUMENT, "begin", 0, 0, none).refuses(Check.ARGUMENT, "begin", 0, 9, none);
        long[] times = {0, 1, LAST - 1, LAST};
        for (int i = 0; i < 4; i++) c.is(0, "begin", i, 0, times[i]).is(times[i], "state", i, 0);
    }

    static void promise14ParameterThatIsNone() {
        Check c = new Check().keep(0, "if ge ?a 1 let x add ?b 1 close when [case deposit ada ada gold ?c close case notify eq ?d 1 close] ?t close");
        String[] names = {"a", "b", "c", "d", "t"};
        for (String missing : names) {
            c.is(missing.equals("a") ? 0 : 5, "forget");
            for (String name : names) if (!name.equals(missing)) c.set(name, 5);
            c.refuses(-11, "begin", 0, 0, 0L).refuses(-11, "look", 0, true, 31, 9).set(missing, 5);
        }
        c.is(0, "begin", 0, 0, 0L).is(5, "state", 0, 4);
    }

    static void promise14ParameterThatIsNoTime() {
        Check c = new Check().keep(0, "when [] ?t close").keep(1, "let x ?t close");
        for (String none : new String[] {"-1", "1000000000000001", NINES, "-" + NINES, "18446744073709551616", "1000000000000000000"}) {
            c.set("t", none).refuses(-11, "begin", 0, 0, 0L).refuses(-11, "look", 0, true, 31, 9);
        }
        // as a value it may be any NUMBER
        c.is(0, "begin", 15, 1, 0L);
        String[] times = {"0", "1", "999999999999999", "1000000000000000"};
        for (int i = 0; i < 4; i++) c.set("t", times[i]).is(0, "begin", i, 0, 0L);
        // both as a value and as a time
        c.keep(2, "let x ?t when [] ?t close").set("t", -1).refuses(-11, "begin", 5, 2, 0L).set("t", 0).is(0, "begin", 5, 2, 0L);
    }

    static void promise14ParametersOfItsOwnContractAlone() {
        // contracts that stand before and behind it have others; so has a text that was no contract
        Check c = new Check().keep(0, "when [] ?a close").keep(1, "close").keep(2, "when [] ?b close").is(0, "begin", 0, 1, 0L).is(-11, "begin", 1, 2, 0L).keep(3, "let x 1 close");
        c.text("when [] ?c when [] ?d !").is(-1, "keep", 4).is(0, "begin", 1, 3, 0L).is(0, "look", 1, true, 31, 9).is(0, "look", 3, true, 31, 9).set("a", 1).is(0, "begin", 2, 0, 0L);
    }

    static void promise14AllParametersAsTheyAre() {
        Check c = new Check().keep(0, "close").is(0, "begin", 0, 0, 0L).is(0, "state", 0, 4);
        for (int i = 0; i < 20; i++) c.set("p" + (char) ('a' + i), i);
        c.is(0, "begin", 1, 0, 0L).is(20, "state", 1, 4).writes("0", "entry", 1, 4, 0).writes("19", "entry", 1, 4, 19).refuses(Check.INDEX, "entry", 1, 4, 20).is(0, "state", 0, 4);
    }

    static void promise14NothingOfAnInstanceThatWasThereBefore() {
        Check c = new Check().mint("ada", "gold", 5).keep(0, "when [case deposit ada ada gold 5 when [case choice c ada [1 1] let x 1 close] 9 close] 9 close").set("p", 1).is(0, "begin", 3, 0, 5L);
        c.transact(0, 3, 6, 6, "deposit ada ada gold 5 choice c ada 1").is(1, "state", 3, 2).is(1, "state", 3, 3).is(1, "state", 3, 4).is(0, "end", 3).is(1, "forget").is(0, "begin", 3, 0, 2L).is(2, "state", 3, 0);
        for (int what = 1; what < 6; what++) c.is(0, "state", 3, what);
        c.writes("when [ case deposit ada ada gold 5 when [ case choice c ada [ 1 1 ] let x 1 close ] 9 close ] 9 close", "rest", 3);
        // a fresh look has nothing of an instance, nor of a look before it
        c.keep(1, "assert not chose c ada assert eq use x 0 assert eq held ada gold 0 close").is(0, "look", 1, true, 31, 400).is(0, "look", 3, false, 31, 400).is(0, "look", 1, true, 31, 400);
    }

    static void promise14FullByOneByte() {
        for (int room = 30; room <= 32; room++) {
            Check c = new Check().keep(0, "close").fillTo(16384 - room);
            if (room < 31) c.refuses(-10, "begin", 3, 0, 0L).refuses(Check.STATE, "rest", 3);
            else c.is(0, "begin", 3, 0, 0L);
        }
        // -11 is looked at first
        new Check().keep(0, "let x ?p close").fillTo(16380).refuses(-11, "begin", 0, 0, 0L);
    }

    // ---- end

    static void promise15EndsACloseWithoutAccounts() {
        Check c = new Check().mint("ada", "gold", 5).keep(0, "when [case deposit ada ada gold 5 when [] 20 close] 9 close").keep(1, "let x 1 close");
        for (int none : NO_PLACES) c.refuses(Check.INDEX, "end", none);
        c.refuses(Check.STATE, "end", 0).is(0, "begin", 0, 0, 0L).refuses(Check.STATE, "end", 0).transact(0, 0, 0, 0, "deposit ada ada gold 5").refuses(Check.STATE, "end", 0);
        c.transact(0, 0, 20, 20, "").is(0, "end", 0).refuses(Check.STATE, "end", 0).is(0, "begin", 15, 1, 0L).refuses(Check.STATE, "end", 15).transact(0, 15, 0, 0, "").is(0, "end", 15);
        // what a new one begins with is nothing of the old one
        c.is(0, "begin", 15, 1, 7L).is(0, "state", 15, 3).is(7, "state", 15, 0).conserved();
    }

    static void promise15FullByOneByte() {
        for (int room = 14; room <= 16; room++) {
            Check c = new Check().keep(0, "close").is(0, "begin", 3, 0, 0L).fillTo(16384 - room);
            if (room < 15) c.refuses(-10, "end", 3).writes("close", "rest", 3);
            else c.is(0, "end", 3).refuses(Check.STATE, "rest", 3);
        }
    }

    // ---- transact

    static void promise16TransactsAt0To15() {
        Check c = new Check().keep(0, "when [] 5 close").is(0, "begin", 0, 0, 0L).is(0, "begin", 15, 0, 0L);
        for (int none : NO_PLACES) c.refusesText(Check.INDEX, "!", "transact", none, 5L, 5L);
        c.refusesText(Check.STATE, "!", "transact", 1, 5L, 5L).refusesText(Check.STATE, "", "transact", 14, -1L, -2L).transact(0, 0, 5, 5, "").transact(0, 15, 5, 5, "");
    }

    static void promise16FaultsOfInputs() {
        Check c = new Check().keep(0, "when [case notify true close] 5 close").is(0, "begin", 0, 0, 0L);
        Object[][] rows = {{"!", 1, 0}, {"notify !", 1, 7}, {"deposit a b c 1" + NINES, 2, 14}, {"1" + NINES, 2, 0}, {"deposit", 3, 7}, {"deposit a", 3, 9}, {"deposit a b", 3, 11}, {"deposit a b c", 3, 13},
            {"deposit a b c ", 3, 14}, {"choice", 3, 6}, {"choice a ", 3, 9}, {"choice a b", 3, 10}, {"close", 4, 0}, {"1", 4, 0}, {"x", 4, 0}, {"(", 4, 0}, {"deposit 1", 4, 8}, {"deposit a to", 4, 10},
            {"deposit a b 1", 4, 12}, {"deposit a b c d", 4, 14}, {"deposit a b c ?p", 4, 14}, {"deposit a b c (1)", 4, 14}, {"choice 1", 4, 7}, {"choice a 1", 4, 9}, {"choice a b c", 4, 11},
            {"choice a b [1]", 4, 11}, {"notify true", 4, 7}, {"notify notify 1", 4, 14}, {"notify)", 4, 6}};
        for (Object[] row : rows) {
            // a FAULT is looked at before the interval
            c.refusesText(-1, (String) row[0], "transact", 0, 5L, 4L).is(row[1], "fault", false).is(row[2], "fault", true);
        }
        c.refusesText(-2, "deposit a b c 1 choice a b 1 notify", "transact", 0, 5L, 4L);
    }

    static void promise16TokensOfInputs() {
        Check c = new Check().keep(0, "when [case notify true close] 5 close").is(0, "begin", 0, 0, 0L);
        String begins = " deposit choice notify ";
        String[][] rows = {{"", begins}, {"notify ", begins}, {"deposit a b c 1 ", begins}, {"choice a b 1 ", begins}, {"deposit ", " n "}, {"deposit a ", " n "}, {"deposit a b ", " n "},
            {"deposit a b c ", " 5 "}, {"choice ", " n "}, {"choice a ", " n "}, {"choice a b ", " 5 "}};
        for (String[] row : rows) {
            for (String token : Part2Boundaries.TOKENS) {
                String text = row[0] + token;
                // in an interval that is none, so that nothing is DONE
                int code = c.text(text).number("transact", 0, 5L, 4L);
                if (!row[1].contains(" " + token + " ")) c.is(4, "fault", false).is(row[0].length(), "fault", true);
                else c.is(code == -2 ? 0 : 3, "fault", false).is(code == -2 ? -1 : text.length(), "fault", true);
            }
        }
    }

    static void promise16FortyInputs() {
        Check c = new Check().keep(0, "when [case notify true close] 5 close").is(0, "begin", 0, 0, 0L);
        String[] sorts = {"deposit a b c 1 ", "choice a b 1 ", "notify "};
        for (String sort : sorts) {
            c.refusesText(-5, sort.repeat(39), "transact", 0, 0L, 0L).refusesText(-5, sort.repeat(40), "transact", 0, 0L, 0L);
            for (String next : sorts) {
                c.refusesText(-1, sort.repeat(40) + next, "transact", 0, 0L, 0L).is(9, "fault", false).is(40 * sort.length(), "fault", true);
                // at its first token: whatever else it has
                c.refusesText(-1, sort.repeat(40) + next.split(" ")[0], "transact", 0, 0L, 0L).is(9, "fault", false).is(40 * sort.length(), "fault", true);
            }
            c.refusesText(-1, sort.repeat(40) + "!", "transact", 0, 0L, 0L).is(1, "fault", false);
            // the 40th input has its own faults
            c.refusesText(-1, sort.repeat(39) + "deposit", "transact", 0, 0L, 0L).is(3, "fault", false);
        }
    }

    static void promise16EachAnswer() {
        String large = "add " + NINES + " 1";
        Check c = new Check().mint("ada", "gold", 5).keep(0, "when [case deposit ada ada gold 6 close case notify eq 1 " + large + " close case choice c ada [1 1] " + "assert false ".repeat(61)
                + "close case choice c ada [2 2] close] 20 close").is(0, "begin", 0, 0, 10L);
        c.refusesText(-1, "x", "transact", 0, 10L, 10L).refusesText(-2, "", "transact", 0, 11L, 10L).refusesText(-3, "", "transact", 0, 9L, 9L).refusesText(-4, "", "transact", 0, 19L, 20L);
        c.refusesText(-5, "choice c ada 3", "transact", 0, 10L, 10L).refusesText(-6, "", "transact", 0, 10L, 10L).refusesText(-7, "deposit ada ada gold 6", "transact", 0, 10L, 10L);
        c.refusesText(-8, "notify", "transact", 0, 10L, 10L).refusesText(-9, "choice c ada 1", "transact", 0, 10L, 10L).transact(0, 0, 10, 10, "choice c ada 2");
    }

    static void promise16FullByOneByte() {
        for (int room = 30; room <= 32; room++) {
            Check c = new Check().keep(0, "when [] 5 close").is(0, "begin", 3, 0, 0L).fillTo(16384 - room);
            if (room < 31) c.refusesText(-10, "", "transact", 3, 5L, 5L).is(0, "state", 3, 5);
            else c.transact(0, 3, 5, 5, "").is(1, "state", 3, 5);
        }
    }

    // ---- rest, state, entry, name

    static void promise17RestAt0To15() {
        Check c = new Check().keep(0, "when [] 5 close").is(0, "begin", 0, 0, 0L).is(0, "begin", 15, 0, 0L);
        for (int none : NO_PLACES) c.refuses(Check.INDEX, "rest", none);
        c.refuses(Check.STATE, "rest", 1).refuses(Check.STATE, "rest", 14).writes("when [ ] 5 close", "rest", 0).transact(0, 15, 5, 5, "").writes("close", "rest", 15).is(0, "end", 15);
        c.refuses(Check.STATE, "rest", 15);
    }

    static void promise18StateAt0To15And0To5() {
        Check c = new Check().keep(0, "let x 1 when [] 5 close").is(0, "begin", 0, 0, 0L).is(0, "begin", 15, 0, 3L);
        for (int none : NO_PLACES) c.refuses(Check.INDEX, "state", none, 0).refuses(Check.INDEX, "state", none, 6);
        for (int what : new int[] {-1, 6, Integer.MIN_VALUE, Integer.MAX_VALUE}) c.refuses(Check.ARGUMENT, "state", 0, what).refuses(Check.ARGUMENT, "state", 1, what);
        for (int what = 0; what < 6; what++) c.refuses(Check.STATE, "state", 1, what).is(what == 0 ? 3 : 0, "state", 15, what);
        c.transact(0, 15, 5, 5, "").is(5, "state", 15, 0).is(1, "state", 15, 3).is(1, "state", 15, 5);
    }

    static void promise18CloseWithoutAccounts() {
        Check c = new Check().mint("ada", "gold", 5).keep(0, "close").keep(1, "if true close close").is(0, "begin", 0, 0, 0L).is(1, "state", 0, 5).is(0, "begin", 1, 1, 0L).is(0, "state", 1, 5);
        c.transact(0, 1, 0, 0, "").is(1, "state", 1, 5);
    }

    static Check full() {
        StringBuilder lets = new StringBuilder();
        for (int i = 0; i < 40; i++) lets.append("let a").append((char) ('a' + i / 20)).append((char) ('a' + i % 20)).append(' ').append(i).append(' ');
        return new Check().keep(0, lets + "when [] 9 close").set("p", "-1").is(0, "begin", 0, 0, 0L).is(0, "begin", 15, 0, 0L).transact(0, 15, 0, 0, "");
    }

    static void promise19EntriesBesideTheLast() {
        Check c = full().writes("0", "entry", 15, 3, 0).writes("39", "entry", 15, 3, 39).writes("-1", "entry", 15, 4, 0);
        for (int none : new int[] {-1, 40, 41, Integer.MIN_VALUE, Integer.MAX_VALUE}) c.refuses(Check.INDEX, "entry", 15, 3, none);
        c.refuses(Check.INDEX, "entry", 15, 4, 1).refuses(Check.INDEX, "entry", 15, 1, 0).refuses(Check.INDEX, "entry", 15, 2, 0).refuses(Check.INDEX, "entry", 0, 3, 0);
        for (int none : NO_PLACES) c.refuses(Check.INDEX, "entry", none, 1, 0).refuses(Check.INDEX, "entry", none, 0, 0);
        for (int what : new int[] {-1, 0, 5, Integer.MAX_VALUE}) c.refuses(Check.ARGUMENT, "entry", 15, what, 0).refuses(Check.ARGUMENT, "entry", 1, what, -1);
        // there is no such entry: looked at last
        c.refuses(Check.STATE, "entry", 1, 1, -1).refuses(Check.STATE, "entry", 1, 4, 99);
    }

    static void promise20NamesBesideTheLast() {
        Check c = full().is(Check.n("aaa"), "name", 15, 3, 0, false).is(Check.n("abt"), "name", 15, 3, 39, false).is(0, "name", 15, 3, 39, true).is(0, "name", 15, 4, 0, true).is(Check.n("p"), "name", 15, 4, 0, false);
        for (boolean second : new boolean[] {false, true}) {
            for (int none : new int[] {-1, 40, Integer.MIN_VALUE, Integer.MAX_VALUE}) c.refuses(Check.INDEX, "name", 15, 3, none, second);
            for (int none : NO_PLACES) c.refuses(Check.INDEX, "name", none, 1, 0, second).refuses(Check.INDEX, "name", none, 0, 0, second);
            for (int what : new int[] {-1, 0, 5, Integer.MAX_VALUE}) c.refuses(Check.ARGUMENT, "name", 15, what, 0, second).refuses(Check.ARGUMENT, "name", 1, what, -1, second);
            c.refuses(Check.STATE, "name", 1, 1, -1, second).refuses(Check.STATE, "name", 1, 4, 99, second);
        }
    }

    static void promise20SecondNames() {
        Check c = new Check().mint("bob", "gold", 5).keep(0, "when [case deposit ada bob gold 5 when [case choice c eve [1 1] let x 1 when [] 9 close] 9 close] 9 close").is(0, "begin", 0, 0, 0L);
        c.transact(0, 0, 0, 0, "deposit ada bob gold 5 choice c eve 1").is(ADA, "name", 0, 1, 0, false).is(GOLD, "name", 0, 1, 0, true).is(Check.n("c"), "name", 0, 2, 0, false);
        c.is(Check.n("eve"), "name", 0, 2, 0, true).is(Check.n("x"), "name", 0, 3, 0, false).is(0, "name", 0, 3, 0, true);
    }
}
