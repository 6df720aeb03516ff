/** Terms, part 5: wallets. */
final class Part5Boundaries {
    static final String NINES = "9".repeat(300);
    static final String EIGHT = "9".repeat(299) + "8";
    static final long ADA = Check.n("ada");
    static final long GOLD = Check.n("gold");
    static final String WAITING = "when [] 900 close";

    static Check withWallets(int wallets) {
        Check c = new Check();
        for (int i = 0; i < wallets; i++) c.mint("p" + i, "gold", 5);
        return c.is(wallets, "wallets");
    }

    // ---- a wallet has a NUMBER above 0

    static void part5WalletHasANumberAbove0() {
        for (int v = 4; v <= 5; v++) {
            Check c = withWallets(3).keep(0, "when [case deposit p1 p1 gold " + v + " " + WAITING + "] 9 close").is(0, "begin", 0, 0, 0L);
            c.transact(0, 0, 0, 0, "deposit p1 p1 gold " + v).is(v == 5 ? 2 : 3, "wallets").writes("" + (5 - v), "wallet", Check.n("p1"), GOLD).conserved();
        }
    }

    // ---- there are at most 60

    static void part5WalletsAre60AtMostByMint() {
        Check c = withWallets(59).mint("q", "gold", 1).is(60, "wallets").refusesText(-9, "1", "mint", Check.n("r"), GOLD);
        c.refusesText(-9, "1", "mint", Check.n("p0"), Check.n("oil")).mint("q", "gold", 1).mint("p0", "gold", 1).mint("p58", "gold", 1).is(60, "wallets");
    }

    static void part5WalletsAre60AtMostByPayTo() {
        for (int wallets = 58; wallets <= 60; wallets++) {
            Check c = withWallets(wallets).keep(0, "when [case deposit p0 p0 gold 2 pay p0 to new1 gold 1 " + WAITING + " case deposit p0 p0 gold 3 pay p0 to p7 gold 3 " + WAITING + "] 9 close");
            c.is(0, "begin", 0, 0, 0L).is(0, "begin", 1, 0, 0L);
            if (wallets == 60) c.refusesText(-9, "deposit p0 p0 gold 2", "transact", 0, 0L, 0L);
            else c.transact(0, 0, 0, 0, "deposit p0 p0 gold 2").is(wallets + 1, "wallets");
            // to a wallet that there is already
            c.transact(0, 1, 0, 0, "deposit p0 p0 gold 3").writes("8", "wallet", Check.n("p7"), GOLD).conserved();
        }
    }

    static void part5WalletsAre60AtMostByClose() {
        for (int wallets = 59; wallets <= 60; wallets++) {
            Check c = withWallets(wallets).keep(0, "when [case deposit new1 p0 gold 1 " + WAITING + "] 9 close").is(0, "begin", 0, 0, 0L).transact(0, 0, 0, 0, "deposit new1 p0 gold 1");
            if (wallets == 60) c.refusesText(-9, "", "transact", 0, 900L, 900L);
            else c.transact(0, 0, 900, 900, "").is(60, "wallets").conserved();
        }
    }

    static void part5WalletThatIsEmptiedMakesRoom() {
        // what is taken from the payer's wallet goes before what is paid comes
        for (int v = 4; v <= 5; v++) {
            Check c = withWallets(60).keep(0, "when [case deposit p0 p0 gold " + v + " pay p0 to new1 gold 1 " + WAITING + "] 9 close").is(0, "begin", 0, 0, 0L);
            if (v == 4) c.refusesText(-9, "deposit p0 p0 gold 4", "transact", 0, 0L, 0L);
            else c.transact(0, 0, 0, 0, "deposit p0 p0 gold 5").is(60, "wallets").writes("1", "wallet", Check.n("new1"), GOLD).conserved();
        }
    }

    // ---- MINTING puts a NUMBER above 0 to one

    static void part5MintingIsAbove0() {
        Check c = new Check().refusesText(-5, "-1", "mint", ADA, GOLD).refusesText(-5, "0", "mint", ADA, GOLD).refusesText(-5, "-0", "mint", ADA, GOLD);
        c.refusesText(-5, "-" + NINES, "mint", ADA, GOLD).text("1").is(0, "mint", ADA, GOLD).writes("1", "wallet", ADA, GOLD).is(1, "wallets");
    }

    static void part5MintedIsNotLarge() {
        Check c = new Check().mint("ada", "gold", EIGHT).refusesText(-8, "2", "mint", ADA, GOLD).refusesText(-8, "2", "mint", Check.n("bob"), GOLD);
        c.mint("bob", "gold", 1).refusesText(-8, "1", "mint", ADA, GOLD).refusesText(-8, "1", "mint", Check.n("bob"), GOLD).refusesText(-8, NINES, "mint", Check.n("eve"), GOLD);
        c.mint("ada", "oil", NINES).writes(NINES, "total", GOLD, 3).writes(NINES, "total", GOLD, 0).writes(NINES, "total", Check.n("oil"), 2);
    }

    // ---- of each token all wallets and all accounts of all instances together are what was minted

    static void part5AllThatIsHeldIsWhatWasMinted() {
        Check c = new Check().mint("ada", "gold", NINES).keep(0, "when [case deposit bob ada gold " + EIGHT + " pay bob into eve gold 7 when [] 20 close] 9 close");
        for (int i = 0; i < 16; i++) c.is(0, "begin", i, 0, 0L);
        c.transact(0, 15, 0, 0, "deposit bob ada gold " + EIGHT).writes("1", "total", GOLD, 0).writes(EIGHT, "total", GOLD, 1).writes(NINES, "total", GOLD, 2).writes(NINES, "total", GOLD, 3);
        c.transact(0, 15, 20, 20, "").writes(NINES, "total", GOLD, 0).writes("0", "total", GOLD, 1).writes(NINES, "total", GOLD, 2).is(3, "wallets");
    }
}
