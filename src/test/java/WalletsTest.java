/** Promises 25 to 28: mint, wallet, total, wallets. */
public final class WalletsTest {
    static final String NINES = "9".repeat(300);

    public static void main(String[] args) {
        minting();
        wrongNames();
        large();
        sixtyWallets();
        sixtyTokens();
        sixtyOneWalletsByATransaction();
        totals();
        Check.finish();
    }

    static void minting() {
        Check c = new Check("promise 25");
        long ada = Check.n("ada"), gold = Check.n("gold");
        c.writes("0", "wallet", ada, gold).is(0, "wallets").text("5").is(0, "mint", ada, gold).is(1, "wallets").writes("5", "wallet", ada, gold);
        c.text(" 0007 ").is(0, "mint", ada, gold).is(1, "wallets").writes("12", "wallet", ada, gold).writes("0", "wallet", gold, ada);
        c.text("0").is(-5, "mint", ada, gold).text("-0").is(-5, "mint", ada, gold).text("-3").is(-5, "mint", ada, gold).is(0, "fault", false);
        c.text("").is(-1, "mint", ada, gold).text("1 1").is(-1, "mint", ada, gold).text("gold").is(-1, "mint", ada, gold).text("?x").is(-1, "mint", ada, gold);
        c.is(0, "told", 2).writes("12", "wallet", ada, gold).is(2, "told", 4);
    }

    static void wrongNames() {
        Check c = new Check("promises 25 to 27");
        long ada = Check.n("ada");
        for (long bad : new long[] {0, -1, Check.n("pay"), Check.n("A"), Check.n("9a"), Long.MIN_VALUE}) {
            c.text("1").is(Check.ARGUMENT, "mint", bad, ada).is(0, "told", 2).text("1").is(Check.ARGUMENT, "mint", ada, bad).is(0, "told", 2);
            c.is(Check.ARGUMENT, "wallet", bad, ada).is(Check.ARGUMENT, "wallet", ada, bad).is(Check.ARGUMENT, "total", bad, 0);
        }
        c.is(Check.ARGUMENT, "total", ada, -1).is(Check.ARGUMENT, "total", ada, 4).is(0, "wallets").is(0, "told", 4);
    }

    static void large() {
        Check c = new Check("-8").mint("ada", "gold", NINES).mint("ada", "oil", 1);
        c.text("1").is(-8, "mint", Check.n("ada"), Check.n("gold")).text("1").is(-8, "mint", Check.n("bob"), Check.n("gold")).is(2, "wallets");
        c.writes(NINES, "wallet", Check.n("ada"), Check.n("gold")).writes(NINES, "total", Check.n("gold"), 3);
        // what was minted counts wherever it is now
        c.keep(0, "when [case deposit ada ada gold " + NINES + " when [] 9 close] 9 close").is(0, "begin", 0, 0, 0L).transact(0, 0, 0, 0, "deposit ada ada gold " + NINES);
        c.is(1, "wallets").text("1").is(-8, "mint", Check.n("ada"), Check.n("gold")).writes(NINES, "total", Check.n("gold"), 1).writes("0", "total", Check.n("gold"), 0);
        c.transact(0, 0, 9, 9, "").is(2, "wallets").conserved();
    }

    static void sixtyWallets() {
        Check c = new Check("-9 wallets");
        for (int i = 0; i < 60; i++) c.mint("p" + i, "gold", i + 1).is(i + 1, "wallets");
        c.text("1").is(-9, "mint", Check.n("q"), Check.n("gold")).text("1").is(-9, "mint", Check.n("p0"), Check.n("oil")).is(0, "fault", false).is(60, "wallets");
        c.mint("p59", "gold", 1).writes("61", "wallet", Check.n("p59"), Check.n("gold")).writes("1831", "total", Check.n("gold"), 0);
        // both too many and too much
        c.text(NINES).is(-8, "mint", Check.n("q"), Check.n("gold"));
        // a wallet that is emptied goes, and makes room
        c.keep(0, "when [case deposit p0 p0 gold 1 when [] 9 close] 9 close").is(0, "begin", 0, 0, 0L).transact(0, 0, 0, 0, "deposit p0 p0 gold 1");
        c.is(59, "wallets").mint("q", "gold", 1).is(60, "wallets").transact(-9, 0, 9, 9, "").is(1, "state", 0, 1).conserved();
    }

    static void sixtyTokens() {
        Check c = new Check("-9 tokens").mint("ada", "gold", 2);
        c.keep(0, "when [case deposit ada ada gold 2 pay ada into bob gold 2 when [] 9 close] 9 close").is(0, "begin", 0, 0, 0L);
        c.transact(0, 0, 0, 0, "deposit ada ada gold 2").is(0, "wallets");
        for (int i = 1; i < 60; i++) c.mint("ada", "t" + i, 1);
        // gold is in no wallet, but was minted
        c.is(59, "wallets").text("1").is(-9, "mint", Check.n("ada"), Check.n("u")).mint("ada", "gold", 5).mint("ada", "t9", 1).mint("ada", "t1", 1).is(60, "wallets");
    }

    static void sixtyOneWalletsByATransaction() {
        Check c = new Check("-9 by pay to").mint("ada", "gold", 9);
        for (int i = 1; i < 60; i++) c.mint("p" + i, "gold", 1);
        c.keep(0, "when [case deposit ada ada gold 1 pay ada to p7 gold 1 close case deposit ada ada gold 2 pay ada to q gold 1 close] 9 close");
        c.is(0, "begin", 0, 0, 0L).is(0, "begin", 1, 0, 0L).transact(-9, 0, 0, 0, "deposit ada ada gold 2").transact(0, 1, 0, 0, "deposit ada ada gold 1").is(60, "wallets");
        c.conserved();
    }

    static void totals() {
        Check c = new Check("promise 27");
        long gold = Check.n("gold");
        for (int what = 0; what < 4; what++) c.writes("0", "total", gold, what);
        c.mint("ada", "gold", 100).mint("bob", "gold", 20).mint("bob", "oil", 7).mint("gold", "oil", 5);
        c.keep(0, "when [case deposit ada ada gold 30 pay ada into eve gold 10 when [] 9 close] 9 close").is(0, "begin", 0, 0, 0L).is(0, "begin", 5, 0, 0L);
        c.transact(0, 0, 0, 0, "deposit ada ada gold 30").transact(0, 5, 0, 0, "deposit ada ada gold 30");
        c.writes("60", "total", gold, 0).writes("60", "total", gold, 1).writes("120", "total", gold, 2).writes("120", "total", gold, 3);
        c.writes("12", "total", Check.n("oil"), 0).writes("0", "total", Check.n("oil"), 1).writes("12", "total", Check.n("oil"), 2);
        c.transact(0, 0, 9, 9, "").writes("90", "total", gold, 0).writes("30", "total", gold, 1).writes("120", "total", gold, 3).is(5, "wallets");
        c.is(0, "end", 0).writes("120", "total", gold, 2);
    }
}
