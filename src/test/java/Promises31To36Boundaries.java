/** Promises 31 to 36: fuse, peek, poke, cut, recover, told. */
final class Promises31To36Boundaries {
    static final long ADA = Check.n("ada");
    static final long GOLD = Check.n("gold");

    static void promise31NotBelowNone() {
        Check c = new Check().refuses(Check.ARGUMENT, "fuse", -2).refuses(Check.ARGUMENT, "fuse", Integer.MIN_VALUE).is("void", "fuse", -1).is("void", "fuse", Integer.MAX_VALUE).is(0, "forget").is(0, "told", 7);
        // a fuse that is refused leaves the one that there is
        c.is("void", "fuse", 0).is(Check.ARGUMENT, "fuse", -2).is(Check.STATE, "forget").is(1, "told", 7);
    }

    static void promise31BytesBesideARecord() {
        for (int fuse = 0; fuse <= 15; fuse++) {
            Check c = new Check().is("void", "fuse", fuse);
            int records = 0;
            for (; records < fuse / 7; records++) c.is(0, "forget").is(records + 1, "told", 4).is(0, "told", 7);
            c.is(Check.STATE, "forget").is(1, "told", 7).is(records, "told", 4).is(7 * records, "told", 3).is(records, "recover");
        }
    }

    static void promise31NoneIsNever() {
        Check c = new Check().is("void", "fuse", 3).is("void", "fuse", -1).is(0, "forget").is(0, "forget").is("void", "fuse", 7).is(0, "forget").is("void", "fuse", -1).is(0, "forget").is(0, "told", 7).is(4, "told", 4);
        // the latest one counts anew
        c.is("void", "fuse", 6).is("void", "fuse", 7).is(0, "forget").is(Check.STATE, "forget").is(5, "recover");
    }

    static void promise31EndsAtTheNextRecordAlone() {
        Check c = new Check().keep(0, "close").is("void", "fuse", 0).is(5, "print", 0).is(0, "look", 0, true, 31, 9).refusesText(-1, "!", "keep", 1).refusesText(-5, "0", "mint", ADA, GOLD).is(0, "told", 7);
        c.is(Check.STATE, "begin", 0, 0, 0L).is(1, "told", 7).is(0, "told", 1).is(1, "recover").is(1, "told", 0);
    }

    static void promise32PeeksAt0To16383() {
        Check c = new Check().is(0, "forget").is(0, "peek", 0).is(7, "peek", 1).is(8, "peek", 2).is(0, "peek", 16383).is(0, "peek", 16382);
        for (int none : new int[] {-1, 16384, 16385, Integer.MIN_VALUE, Integer.MAX_VALUE}) c.refuses(Check.INDEX, "peek", none);
        c.is("void", "cut").is(7, "peek", 1).is(Check.INDEX, "peek", -1).is(Check.INDEX, "peek", 16384).is(0, "poke", 16383, 255).is(255, "peek", 16383);
    }

    static void promise33PokesAt0To16383And0To255() {
        Check c = new Check().is(0, "forget");
        for (int none : new int[] {-1, 16384, Integer.MIN_VALUE, Integer.MAX_VALUE}) c.refuses(Check.INDEX, "poke", none, 0).refuses(Check.INDEX, "poke", none, 256);
        for (int none : new int[] {-1, 256, Integer.MIN_VALUE, Integer.MAX_VALUE}) c.refuses(Check.ARGUMENT, "poke", 0, none);
        c.refuses(Check.STATE, "poke", 0, 0).refuses(Check.STATE, "poke", 16383, 255).is("void", "cut");
        for (int none : new int[] {-1, 16384, Integer.MIN_VALUE, Integer.MAX_VALUE}) c.is(Check.INDEX, "poke", none, 0).is(Check.INDEX, "poke", none, 256);
        for (int none : new int[] {-1, 256, Integer.MIN_VALUE, Integer.MAX_VALUE}) c.is(Check.ARGUMENT, "poke", 1, none).is(7, "peek", 1);
        c.is(7, "poke", 1, 255).is(255, "poke", 1, 0).is(0, "poke", 1, 127).is(127, "poke", 1, 128).is(128, "poke", 1, 7).is(7, "peek", 1).is(0, "poke", 16383, 1).is(1, "peek", 16383);
        c.is(1, "recover").is(Check.STATE, "poke", 16383, 0).is(1, "peek", 16383);
    }

    static void promise33BytesBesideStay() {
        Check c = new Check().is("void", "cut");
        for (int i = 0; i < 16384; i += 4095) {
            c.is(0, "poke", i, 200).is(200, "peek", i);
            if (i > 0) c.is(0, "peek", i - 1);
            if (i < 16383) c.is(0, "peek", i + 1);
        }
    }

    static void promise34CutIsNow() {
        Check c = new Check().is(0, "told", 7).is(0, "forget").is("void", "cut").is(1, "told", 7).is(Check.STATE, "cut").is(1, "told", 7).is(8, "peek", 2).is(1, "recover").is(0, "told", 7).is("void", "cut").is(1, "recover");
    }

    static void promise35HowManyWereDoneAgain() {
        Check c = new Check().is(0, "recover");
        for (int records = 1; records <= 20; records++) c.is(0, "forget").is(records, "recover").is(records, "told", 4).is(7 * records, "told", 3);
        // when it is CUT as well
        c.is("void", "cut").is(20, "recover").is(0, "told", 7);
    }

    static void promise35AnyNumberOfTimes() {
        // what it keeps takes the room of what it took away: numbers of 300 digits, 1000 nodes
        String lets = ("let x " + "9".repeat(300) + " ").repeat(40) + "close";
        Check c = new Check().keep(0, lets).text(Part2Boundaries.small(1000)).is(1000, "keep", 1).is(0, "begin", 0, 0, 0L);
        for (int i = 0; i < 60; i++) c.is(3, "recover").is(1081, "told", 5);
        c.writes(lets, "print", 0).is(1000, "about", 1, 1).writes(lets, "rest", 0).keep(2, "let x 7 close").writes("let x 7 close", "print", 2).writes(lets, "print", 0);
    }

    static void promise35EachKindIsDoneAgain() {
        Check c = new Check().keep(0, "when [case deposit ada bob gold ?p when [] 20 close] 9 close").mint("bob", "gold", 9).set("p", 4).is(0, "begin", 0, 0, 2L).transact(0, 0, 3, 5, "deposit ada bob gold 4");
        c.keep(1, "close").is(0, "begin", 1, 1, 0L).is(0, "end", 1).is(0, "drop", 1).is(1, "forget").set("q", 7);
        java.util.List<String> before = c.all();
        c.is(11, "recover");
        java.util.List<String> after = c.all();
        Check.so(after.equals(before), "recover() brings all of it again");
        c.transact(0, 0, 20, 20, "").conserved();
    }

    static void promise35StopsAtTheFirstThatIsNone() {
        for (int spoiled = 0; spoiled < 5; spoiled++) {
            Check c = new Check();
            for (int i = 0; i < 5; i++) c.set("p" + i, 1);
            c.is("void", "cut");
            // the record's last byte; each has 16 bytes
            c.ask("poke", 16 * spoiled + 15, c.number("peek", 16 * spoiled + 15) ^ 1);
            c.is(5, "told", 6).is(80, "told", 3).is(spoiled, "recover").is(spoiled, "told", 6).is(spoiled, "told", 4).is(16 * spoiled, "told", 3);
            // the next one stands there, and makes none of what stands behind it a record
            c.text("1").is(spoiled + 1, "parameter", Check.n("q0")).is(spoiled + 1, "recover").is(16 * spoiled + 16, "told", 3);
        }
    }

    static void promise36ToldOf0To7() {
        Check c = new Check();
        for (int none : new int[] {-1, 8, Integer.MIN_VALUE, Integer.MAX_VALUE}) c.refuses(Check.ARGUMENT, "told", none);
        c.is("void", "cut");
        for (int none : new int[] {-1, 8, Integer.MIN_VALUE, Integer.MAX_VALUE}) c.is(Check.ARGUMENT, "told", none);
        c.is(1, "told", 7);
    }

    static void promise36EachOfThem() {
        Check c = new Check();
        for (int k = 0; k < 16; k++) c.text("close").is(1, "keep", k).is(k + 1, "told", 0).is(0, "begin", k, k, 0L).is(k + 1, "told", 1).is(2 * k + 2, "told", 4).is(51 * k + 51, "told", 3).is(k + 1, "told", 5);
        for (int i = 0; i < 20; i++) c.text("1").is(i + 1, "parameter", Check.n("p" + (char) ('a' + i))).is(i + 1, "told", 6);
        c.is(0, "told", 2).is(20, "feed", 0, 0, 0, 0, 0).is(20, "told", 2).is(0, "drop", 3).is(15, "told", 0).is(16, "told", 5).is(0, "end", 9).is(15, "told", 1).is(20, "forget").is(0, "told", 6);
    }

    static void promise36WhatThereWasWhenItWasCut() {
        Check c = new Check().keep(0, "when [] 9 close").is(0, "begin", 0, 0, 0L).set("p", 1).text("abc").is("void", "cut");
        int[] told = {1, 1, 3, 30 + 31 + 16, 3, 2, 1, 1};
        for (int i = 0; i < 100; i++) c.ask("poke", i, 255);
        for (int what = 0; what < 8; what++) c.is(told[what], "told", what);
        c.is(0, "recover");
        for (int what = 0; what < 8; what++) c.is(0, "told", what);
        // by a FUSE, of a call that would have changed each of them
        c = new Check().keep(0, "when [] 9 close").is(0, "begin", 0, 0, 0L).set("p", 1).is("void", "fuse", 5).text("close").is(Check.STATE, "keep", 1);
        told[2] = 0;
        for (int what = 0; what < 8; what++) c.is(told[what], "told", what);
    }
}
