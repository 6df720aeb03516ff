/** Promises 1 to 6: a new object, feed, trim, size, word, show. */
final class Promises1To6Boundaries {
    static final long ADA = Check.n("ada");
    static final long GOLD = Check.n("gold");

    static void promise1NothingIsThereAtFirst() {
        Check c = new Check();
        for (int what = 0; what < 8; what++) c.is(0, "told", what);
        c.is(0, "size").is(0, "word", 0).is(0, "wallets").is(0, "tries").is(0, "count", 0).is(0, "count", 1).is(-1, "fault", false).is(-1, "fault", true);
        for (int i = 0; i < 16; i++) c.is(Check.STATE, "print", i).is(Check.STATE, "rest", i).is(Check.STATE, "drop", i).is(Check.STATE, "end", i);
        c.is(Check.INDEX, "payment", 0, 0).is(Check.INDEX, "warning", 0, 0).is(0, "forget");
    }

    static void promise1NoFuse() {
        Check c = new Check().text("close" + " ".repeat(5000)).is(1, "keep", 0).is(0, "told", 7).is(1, "told", 4);
    }

    static void promise1ObjectsAreApart() {
        Check a = new Check().keep(0, "close").mint("ada", "gold", 5).text("abc");
        Check b = new Check().is(0, "told", 0).is(0, "told", 2).is(0, "wallets").is(0, "peek", 0);
        a.is(1, "told", 0).is(3, "told", 2).is(1, "wallets");
        b.is(0, "recover");
    }

    static void promise1NoneIsMinus1() {
        Check.so(PromisePlatform.NONE == -1, "NONE is -1");
    }

    static void promise2TwentyBytesHighestFirst() {
        Check c = new Check().is(20, "feed", 0x01020304, 0x80818283, 0xfffefdfc, 0, 0x7fffffff);
        c.is(20, "show").is(0x0102030480818283L, "word", 0).is(0xfffefdfc00000000L, "word", 1).is(0x7fffffff00000000L, "word", 2).is(0, "word", 3);
        c.is(40, "feed", Integer.MIN_VALUE, -1, 1, Integer.MAX_VALUE, 0).is(40, "show").is(0x7fffffff80000000L, "word", 2).is(0xffffffff00000001L, "word", 3);
    }

    static void promise2BehindATapeOfAnyLength() {
        for (int had = 0; had <= 20; had++) {
            Check c = new Check().is(20, "feed", 0x61616161, 0x61616161, 0x61616161, 0x61616161, 0x61616161).is(had, "trim", had).is(had + 20, "feed", 0x62626262, 0, 0, 0, 0x63636363);
            c.writes("a".repeat(had) + "bbbb" + "\u0000".repeat(12) + "cccc", "show");
        }
    }

    static void promise2RefusedAbove16384() {
        for (int had = 16363; had <= 16366; had++) {
            Check c = new Check().text("x".repeat(had));
            if (had <= 16364) c.is(had + 20, "feed", 1, 2, 3, 4, 5).is(had + 20, "told", 2);
            else c.refuses(Check.ARGUMENT, "feed", 1, 2, 3, 4, 5).is(had, "told", 2).writes("x".repeat(had), "show");
        }
    }

    static void promise3TrimBeside() {
        for (int n = 6; n <= 8; n++) new Check().text("abcdefg").is(Math.min(n, 7), "trim", n).writes("abcdefg".substring(0, Math.min(n, 7)), "show");
        Check c = new Check().text("abcdefg").is(7, "trim", Integer.MAX_VALUE).is(1, "trim", 1).is(1, "trim", 7).writes("a", "show").is(0, "trim", 0).is(0, "trim", 0).is(0, "trim", 1);
    }

    static void promise3TrimBelow0() {
        Check c = new Check().text("abc").refuses(Check.ARGUMENT, "trim", -1).refuses(Check.ARGUMENT, "trim", Integer.MIN_VALUE).is(3, "told", 2).is(0, "trim", 0).refuses(Check.ARGUMENT, "trim", -1);
    }

    static void promise4SizeOfEachOut() {
        Check c = new Check().is(0, "size").text("x").is(1, "show").is(1, "size").is(0, "trim", 0).is(0, "show").is(0, "size").is(1, "wallet", ADA, GOLD).is(1, "size");
        c.text("x".repeat(16364)).is(16384, "feed", 0, 0, 0, 0, 0).is(16384, "show").is(16384, "size").is(16383, "trim", 16383).is(16383, "show").is(16383, "size");
    }

    static void promise5WordsBesideTheEnd() {
        for (int bytes = 0; bytes <= 17; bytes++) {
            Check c = new Check().text("\u00ff".repeat(bytes)).is(bytes, "show");
            for (int i = 0; i < 4; i++) {
                int there = Math.max(0, Math.min(8, bytes - 8 * i));
                c.is(there == 0 ? 0L : -1L << 8 * (8 - there), "word", i);
            }
        }
    }

    static void promise5WordsThatAreNone() {
        Check c = new Check().text("x".repeat(16364)).is(16384, "feed", -1, -1, -1, -1, -1).is(16384, "show").is(-1, "word", 2047).is(0, "word", 2048);
        for (int i : new int[] {-1, -2, Integer.MIN_VALUE, Integer.MAX_VALUE, 1 << 29, -(1 << 29), 1 << 28, (1 << 29) + 1, 1 << 30, (1 << 30) + 2047}) c.is(0, "word", i);
        c.is(0x7878787878787878L, "word", 0).is(0x78787878ffffffffL, "word", 2045).is(-1, "word", 2046);
    }

    static void promise6ShowLeavesTheTape() {
        Check c = new Check().writes("", "show").text("\u0000\u00ff close ").writes("\u0000\u00ff close ", "show").is(9, "told", 2).writes("\u0000\u00ff close ", "show");
        c.is(-1, "keep", 0).writes("", "show").is(0, "told", 2);
    }
}
