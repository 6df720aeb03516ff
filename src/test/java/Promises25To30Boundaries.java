/** Promises 25 to 30: mint, wallet, total, wallets, look, tries. */
final class Promises25To30Boundaries {
    static final String NINES = "9".repeat(300);
    static final String EIGHT = "9".repeat(299) + "8";
    static final long ADA = Check.n("ada");
    static final long BOB = Check.n("bob");
    static final long GOLD = Check.n("gold");
    static final long OIL = Check.n("oil");
    static final long[] NO_NAMES = {0, -1, 0x60, 0x7b, Check.n("to"), Check.n("false"), Check.n("A"), Check.n("1a"), 0x6100, Long.MIN_VALUE, Long.MAX_VALUE};

    // ---- mint

    static void promise25NamesOfMint() {
        Check c = new Check();
        for (long none : NO_NAMES) c.refusesText(Check.ARGUMENT, "1", "mint", none, GOLD).refusesText(Check.ARGUMENT, "!", "mint", ADA, none);
        c.text("1").is(0, "mint", Check.n("a"), Check.n("z")).text("1").is(0, "mint", Check.n("zzzzzzzz"), Check.n("a0000000")).is(2, "wallets");
    }

    static void promise25OneNumberAbove0() {
        Check c = new Check();
        Object[][] rows = {{"", 3, 0}, {"x", 4, 0}, {"(1)", 4, 0}, {"?x", 4, 0}, {"1 1", 9, 2}, {"0 !", 1, 2}, {"-1 1", 9, 3}, {"1" + NINES, 2, 0}};
        for (Object[] row : rows) c.refusesText(-1, (String) row[0], "mint", ADA, GOLD).is(row[1], "fault", false).is(row[2], "fault", true);
        c.refusesText(-5, "-1", "mint", ADA, GOLD).refusesText(-5, "0", "mint", ADA, GOLD).text("1").is(0, "mint", ADA, GOLD).writes("1", "wallet", ADA, GOLD);
    }

    static void promise25FirstAndLastOfSixtyTokens() {
        Check c = new Check();
        for (int i = 10; i < 70; i++) c.mint("ada", "t" + i, 1);
        c.refusesText(-9, "1", "mint", ADA, Check.n("t70")).refusesText(-9, "1", "mint", ADA, Check.n("a"));
        for (String token : new String[] {"t10", "t11", "t68", "t69"}) c.mint("ada", token, 1).writes("2", "total", Check.n(token), 3).writes("2", "wallet", ADA, Check.n(token));
    }

    static void promise25LargeByOne() {
        Check c = new Check().mint("ada", "gold", EIGHT).refusesText(-8, "2", "mint", ADA, GOLD).refusesText(-8, NINES, "mint", ADA, GOLD).mint("ada", "gold", 1).refusesText(-8, "1", "mint", ADA, GOLD);
        // what was minted of the token, though the wallet would not be
        c.refusesText(-8, "1", "mint", BOB, GOLD).mint("bob", "oil", NINES).refusesText(-8, "1", "mint", ADA, OIL).is(2, "wallets");
    }

    static void promise25WideByOneWallet() {
        Check c = new Check();
        for (int i = 0; i < 59; i++) c.mint("p" + i, "gold", 1);
        c.mint("p59", "gold", 1).refusesText(-9, "1", "mint", Check.n("p60"), GOLD).refusesText(-9, "1", "mint", Check.n("p0"), OIL).mint("p59", "gold", 1).is(60, "wallets");
        // each is looked at before the next: -5, -8, -9, -10
        c.refusesText(-5, "0", "mint", Check.n("p60"), GOLD).refusesText(-8, NINES, "mint", Check.n("p60"), GOLD).fillTo(16380).refusesText(-9, "1", "mint", Check.n("p60"), GOLD);
        c.refusesText(-8, NINES, "mint", Check.n("p0"), GOLD).refusesText(-10, "1", "mint", Check.n("p0"), GOLD);
    }

    static void promise25WideByOneToken() {
        // tokens that are in accounts alone were minted, too
        Check c = new Check().mint("ada", "gold", 1).mint("ada", "oil", 1).keep(0, "when [case deposit ada ada gold 1 when [case deposit ada ada oil 1 when [] 9 close] 9 close] 9 close");
        c.is(0, "begin", 0, 0, 0L).transact(0, 0, 0, 0, "deposit ada ada gold 1 deposit ada ada oil 1").is(0, "wallets");
        for (int i = 2; i < 59; i++) c.mint("ada", "t" + i, 1);
        c.is(57, "wallets").mint("ada", "t59", 1).refusesText(-9, "1", "mint", ADA, Check.n("t60")).mint("ada", "gold", 1).mint("bob", "gold", 1).is(60, "wallets");
        c.mint("ada", "t2", 1).mint("ada", "t59", 1);
        // since the latest recover(), with those that it did
        c.is(67, "recover").refusesText(-9, "1", "mint", ADA, Check.n("t60")).refusesText(-9, "1", "mint", ADA, OIL);
    }

    static void promise25FullByOneByte() {
        for (int room = 23; room <= 25; room++) {
            Check c = new Check().fillTo(16384 - room);
            if (room < 24) c.refusesText(-10, "1", "mint", ADA, GOLD).is(0, "wallets");
            else c.text("1").is(0, "mint", ADA, GOLD).is(1, "wallets");
        }
    }

    // ---- wallet, total, wallets

    static void promise26WalletThatIsNoneHas0() {
        Check c = new Check();
        for (long none : NO_NAMES) c.refuses(Check.ARGUMENT, "wallet", none, GOLD).refuses(Check.ARGUMENT, "wallet", ADA, none);
        c.writes("0", "wallet", ADA, GOLD).mint("ada", "gold", 1).writes("1", "wallet", ADA, GOLD).writes("0", "wallet", ADA, OIL).writes("0", "wallet", GOLD, ADA).mint("bob", "gold", EIGHT);
        c.writes(EIGHT, "wallet", BOB, GOLD).writes("0", "wallet", Check.n("zzzzzzzz"), Check.n("zzzzzzzz"));
    }

    static void promise27TotalOf0To3() {
        Check c = new Check();
        for (long none : NO_NAMES) c.refuses(Check.ARGUMENT, "total", none, 0).refuses(Check.ARGUMENT, "total", none, 4);
        for (int what : new int[] {-1, 4, Integer.MIN_VALUE, Integer.MAX_VALUE}) c.refuses(Check.ARGUMENT, "total", GOLD, what);
        for (int what = 0; what < 4; what++) c.writes("0", "total", GOLD, what);
        c.mint("ada", "gold", EIGHT).mint("bob", "gold", 1).mint("ada", "oil", 3).keep(0, "when [case deposit eve ada gold " + EIGHT + " when [] 9 close] 9 close").is(0, "begin", 0, 0, 0L).is(0, "begin", 15, 0, 0L);
        c.writes(NINES, "total", GOLD, 0).writes("0", "total", GOLD, 1).transact(0, 15, 0, 0, "deposit eve ada gold " + EIGHT).writes("1", "total", GOLD, 0).writes(EIGHT, "total", GOLD, 1);
        c.writes(NINES, "total", GOLD, 2).writes(NINES, "total", GOLD, 3).writes("3", "total", OIL, 0).writes("0", "total", OIL, 1);
    }

    static void promise25TokensOfANumber() {
        Check c = new Check();
        for (String token : Part2Boundaries.TOKENS) {
            if (token.equals("5")) continue;
            c.refusesText(-1, token, "mint", ADA, GOLD).is(4, "fault", false).is(0, "fault", true).refusesText(-1, "7 " + token, "mint", ADA, GOLD).is(9, "fault", false).is(2, "fault", true);
        }
        c.text("5").is(0, "mint", ADA, GOLD);
    }

    static void promise28WalletsFrom0To60() {
        Check c = new Check().is(0, "wallets");
        for (int i = 0; i < 60; i++) c.mint("p" + i, "gold", 1).is(i + 1, "wallets");
        c.refusesText(-9, "1", "mint", ADA, GOLD).is(60, "wallets").mint("p0", "gold", 1).is(60, "wallets");
    }

    // ---- look, tries

    static void promise29LooksAt0To15() {
        Check c = new Check().keep(0, "when [] 5 close").keep(15, "assert false close").is(0, "begin", 1, 0, 0L).is(0, "begin", 14, 15, 0L);
        for (int none : new int[] {-1, 16, Integer.MIN_VALUE, Integer.MAX_VALUE}) {
            c.refuses(Check.INDEX, "look", none, true, 1, 1).refuses(Check.INDEX, "look", none, false, 1, 1).refuses(Check.INDEX, "look", none, true, 0, -1);
        }
        // fresh looks at contracts, else at instances
        c.refuses(Check.STATE, "look", 1, true, 1, 1).refuses(Check.STATE, "look", 0, false, 1, 1).is(0, "look", 0, true, 31, 9).is(1, "look", 15, true, 31, 9).is(0, "look", 1, false, 31, 9);
        c.is(1, "look", 14, false, 31, 9).refuses(Check.STATE, "look", 15, false, 31, 9).refuses(Check.STATE, "look", 14, true, 31, 9);
    }

    static void promise29MaskIs1To31() {
        Check c = new Check().keep(0, "assert false close");
        for (int none : new int[] {0, 32, -1, 33, 63, Integer.MIN_VALUE, Integer.MAX_VALUE}) c.refuses(Check.ARGUMENT, "look", 0, true, none, 9).refuses(Check.ARGUMENT, "look", 1, false, none, 9);
        c.is(0, "look", 0, true, 1, 9).is(1, "look", 0, true, 31, 9).is(1, "look", 0, true, 16, 9).is(0, "look", 0, true, 15, 9).is(1, "look", 0, true, 17, 9).is(0, "look", 0, true, 2, 9).is(1, "look", 0, true, 30, 9);
    }

    static void promise29FuelIs0To400() {
        Check c = new Check().keep(0, "assert false close");
        for (int none : new int[] {-1, 401, Integer.MIN_VALUE, Integer.MAX_VALUE}) c.refuses(Check.ARGUMENT, "look", 0, true, 16, none).refuses(Check.ARGUMENT, "look", 1, true, 16, none);
        c.is(2, "look", 0, true, 16, 0).is(0, "tries").is(0, "size").is(1, "look", 0, true, 16, 1).is(1, "tries").is(6, "size").is(1, "look", 0, true, 16, 399).is(1, "look", 0, true, 16, 400);
    }

    static void promise29LackingLeavesTheOutAndTries() {
        Check c = new Check().keep(0, "when [] ?t let x ?p close").keep(1, "assert false close").is(1, "look", 1, true, 16, 9).is(1, "tries").refuses(-11, "look", 0, true, 31, 9).is(1, "tries");
        c.set("p", NINES).refuses(-11, "look", 0, true, 31, 9).set("t", "1000000000000001").refuses(-11, "look", 0, true, 31, 9).set("t", -1).refuses(-11, "look", 0, true, 31, 9);
        c.set("t", "1000000000000000").is(0, "look", 0, true, 31, 9).is(1, "tries").set("t", 0).is(0, "look", 0, true, 31, 9).is(1, "tries").is(0, "size");
        // an instance has its own PARAMETERS: never -11
        c.is(0, "begin", 0, 0, 0L).is(2, "forget").refuses(-11, "look", 0, true, 31, 9).is(0, "look", 0, false, 31, 9);
    }

    static void promise29OutIsThePathOrNothing() {
        Check c = new Check().keep(0, "when [case deposit ada bob gold 1 when [case choice c ada [-5 7] when [case notify true assert false close] 8 close] 9 close] 20 close");
        c.text("before").is(6, "show").is(0, "look", 0, true, 15, 400).is(0, "size").is(0, "word", 0).is(6, "show").is(2, "look", 0, true, 16, 2).is(0, "size");
        c.is(1, "look", 0, true, 16, 3).outIs("deposit ada bob gold 1 at 0 choice c ada -5 at 0 notify at 0");
        // a wait and its START
        c.is(0, "trim", 0).keep(1, "when [] 1000000000000000 assert false close").is(1, "look", 1, true, 16, 1).outIs("wait 1000000000000000");
    }

    static void promise30TriesOfTheLatestLook() {
        Check c = new Check().is(0, "tries").keep(0, "when [case choice c ada [1 2] close] 9 assert false close").is(0, "tries").is(1, "look", 0, true, 16, 400).is(3, "tries").is(2, "look", 0, true, 16, 2).is(2, "tries");
        c.refuses(Check.ARGUMENT, "look", 0, true, 0, 1).is(2, "tries").refuses(Check.INDEX, "look", 16, true, 1, 1).refuses(Check.STATE, "look", 1, true, 1, 1).is(2, "tries");
        c.is(2, "look", 0, true, 16, 0).is(0, "tries").is(0, "look", 0, true, 1, 3).is(3, "tries").is(1, "recover").is(0, "tries");
        String pairs = "when [case choice x ada [1 2 3 4 5 6 7 8] ";
        c.keep(1, pairs.repeat(4) + "close" + "] 9 close".repeat(4)).is(2, "look", 1, true, 31, 400).is(400, "tries").is(2, "look", 1, true, 31, 399).is(399, "tries");
    }
}
