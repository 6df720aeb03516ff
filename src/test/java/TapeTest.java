/** Promises 1 to 6: a new object, feed, trim, size, word, show. */
public final class TapeTest {
    public static void main(String[] args) {
        aNewObject();
        feedAndTrim();
        sizeAndWord();
        show();
        tapeIsFull();
        everyCallWhileCut();
        Check.finish();
    }

    static void aNewObject() {
        Check c = new Check("promise 1");
        for (int what = 0; what < 8; what++) c.is(0, "told", what);
        c.is(0, "size").is(0, "wallets").is(0, "tries").is(0, "count", 0).is(0, "count", 1);
        c.is(-1, "fault", false).is(-1, "fault", true);
        for (int k = 0; k < 16; k++) c.is(Check.STATE, "print", k).is(Check.STATE, "rest", k);
        for (int i = 0; i < 16384; i += 97) c.is(0, "peek", i);
        // no fuse: a record of any length is written
        c.text("close" + " ".repeat(3000)).is(1, "keep", 0).is(0, "told", 7);
        Check.so(PromisePlatform.NONE == -1, "NONE is -1");
    }

    static void feedAndTrim() {
        Check c = new Check("promises 2, 3");
        c.is(20, "feed", 0x61626364, 0x65666768, 0x696a6b6c, 0x6d6e6f70, 0xff008001);
        c.is(40, "feed", 1, 2, 3, 4, Integer.MIN_VALUE).is(40, "told", 2);
        c.is(40, "trim", 41).is(40, "trim", 40).is(40, "trim", Integer.MAX_VALUE).is(23, "trim", 23);
        c.is(23, "show").is(0x6162636465666768L, "word", 0).is(0xff00800100000000L, "word", 2);
        c.is(Check.ARGUMENT, "trim", -1).is(Check.ARGUMENT, "trim", Integer.MIN_VALUE).is(23, "told", 2);
        c.is(43, "feed", 5, 5, 5, 5, 5).is(0, "trim", 0).is(0, "told", 2).is(0, "show");
    }

    static void sizeAndWord() {
        Check c = new Check("promises 4, 5");
        c.text("abcdefghij").is(10, "show").is(10, "size");
        c.is(0x6162636465666768L, "word", 0).is(0x696a000000000000L, "word", 1).is(0, "word", 2);
        c.is(0, "word", -1).is(0, "word", Integer.MIN_VALUE).is(0, "word", Integer.MAX_VALUE).is(0, "word", 2047);
        c.is(0, "word", 2048).is(0, "word", 536870912).is(0, "word", -536870912);
        // a shorter out leaves nothing of the longer one
        c.is(1, "trim", 1).is(1, "show").is(0x6100000000000000L, "word", 0).is(0, "word", 1);
    }

    static void show() {
        Check c = new Check("promise 6");
        c.writes("", "show").text("some (bytes)").writes("some (bytes)", "show");
        c.is(12, "told", 2).writes("some (bytes)", "show");
    }

    static void tapeIsFull() {
        Check c = new Check("promise 2");
        for (int bytes = 20; bytes <= 16380; bytes += 20) c.is(bytes, "feed", -1, -1, -1, -1, 0x20202020);
        c.is(Check.ARGUMENT, "feed", 0, 0, 0, 0, 0).is(16380, "told", 2).is(16380, "show").is(0x20202020ffffffffL, "word", 2);
        c.is(16365, "trim", 16365).is(Check.ARGUMENT, "feed", 0, 0, 0, 0, 0).is(16364, "trim", 16364);
        c.is(16384, "feed", 1, 1, 1, 1, 0x61626364).is(16384, "show").is(0x0000000161626364L, "word", 2047);
        c.is(-1, "keep", 0).is(1, "fault", false).is(0, "fault", true).is(0, "told", 2);
        // a text that is as long has no room in the journal
        c.text("close" + " ".repeat(10));
        for (int i = 0; i < 818; i++) c.ask("feed", 0x20202020, 0x20202020, 0x20202020, 0x20202020, 0x20202020);
        c.is(16375, "told", 2).is(-10, "keep", 0).is(0, "fault", false).is(0, "told", 2).text("close").is(1, "keep", 0);
    }

    static void everyCallWhileCut() {
        Check c = new Check("while it is cut");
        c.text("close").is("void", "cut");
        c.is(Check.STATE, "feed", 0, 0, 0, 0, 0).is(Check.STATE, "trim", -1).is(Check.STATE, "size").is(Check.STATE, "word", 0);
        c.is(Check.STATE, "show").is(Check.STATE, "keep", -1).is(Check.STATE, "drop", -1).is(Check.STATE, "print", -1);
        c.is(Check.STATE, "about", -1, -1).is(Check.STATE, "parameter", 0L).is(Check.STATE, "forget");
        c.is(Check.STATE, "begin", -1, 0, 0L).is(Check.STATE, "end", -1).is(Check.STATE, "transact", -1, 0L, 0L);
        c.is(Check.STATE, "rest", -1).is(Check.STATE, "state", -1, -1).is(Check.STATE, "entry", -1, -1, -1);
        c.is(Check.STATE, "name", -1, -1, -1, true).is(Check.STATE, "count", -1).is(Check.STATE, "payment", -1, -1);
        c.is(Check.STATE, "amount", -1, true).is(Check.STATE, "warning", -1, -1).is(Check.STATE, "mint", 0L, 0L);
        c.is(Check.STATE, "wallet", 0L, 0L).is(Check.STATE, "total", 0L, -1).is(Check.STATE, "wallets");
        c.is(Check.STATE, "look", -1, true, 0, -1).is(Check.STATE, "tries").is(Check.STATE, "fuse", -2).is(Check.STATE, "cut");
        // these go on, and the tape is not used up
        c.is(5, "told", 2).is(1, "told", 7).is(Check.ARGUMENT, "told", 8).is(-1, "fault", false).is(0, "peek", 0);
        c.is(0, "poke", 16383, 7).is(7, "peek", 16383).is(0, "recover").is(0, "told", 7).is(0, "told", 2);
    }
}
