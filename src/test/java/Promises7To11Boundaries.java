/** Promises 7 to 11: keep, fault, drop, print, about. */
final class Promises7To11Boundaries {
    static final String NINES = "9".repeat(300);
    static final long ADA = Check.n("ada");
    static final long GOLD = Check.n("gold");
    static final int[] NO_PLACES = {-1, 16, Integer.MIN_VALUE, Integer.MAX_VALUE};

    static void promise7KeepsAt0To15() {
        Check c = new Check();
        for (int k : NO_PLACES) c.refusesText(Check.INDEX, "close", "keep", k);
        c.text("close").is(1, "keep", 0).text("close").is(1, "keep", 15).text("when [] 1 close").is(2, "keep", 1);
        c.refusesText(Check.STATE, "close", "keep", 0).refusesText(Check.STATE, "!", "keep", 15).is(3, "told", 0).is(4, "told", 5);
    }

    static void promise7HowManyNodes() {
        Check c = new Check().text("close").is(1, "keep", 0).text("(close)").is(1, "keep", 1).text("when [] 1 close").is(2, "keep", 2).text("let x 1 close").is(3, "keep", 3);
        c.text("pay a to b c 1 close").is(3, "keep", 4).text("if true close close").is(4, "keep", 5).text("assert true close").is(3, "keep", 6).text("let x ?p close").is(3, "keep", 7);
        c.text("when [case deposit a b c 1 close] 1 close").is(5, "keep", 8).text("when [case choice a b [1 1] close] 1 close").is(4, "keep", 9);
        c.text("when [case notify true close] 1 close").is(5, "keep", 10).text("let x cond eq 1 2 held a b neg start close").is(9, "keep", 11).is(43, "told", 5);
    }

    static void promise7FaultThenWideThenFull() {
        // 4000 nodes and no room on the disk: the fault comes first, then WIDE, then FULL
        Check c = new Check();
        for (int k = 0; k < 3; k++) c.text(Part2Boundaries.small(1000)).is(1000, "keep", k);
        c.text(Part2Boundaries.small(999)).is(999, "keep", 3).fillTo(16384 - 19);
        c.refusesText(-1, "closed", "keep", 4).refusesText(-9, "when [] 1 close", "keep", 4).refusesText(-10, "close", "keep", 4);
    }

    static void promise7FullByOneByte() {
        for (int room = 19; room <= 21; room++) {
            Check c = new Check().fillTo(16384 - room);
            if (room < 20) c.refusesText(-10, "close", "keep", 0);
            else c.text("close").is(1, "keep", 0).is(16384 - room + 20, "told", 3);
        }
    }

    static void promise8NoneWasRead() {
        Check c = new Check().is(-1, "fault", false).is(-1, "fault", true).text("!").is(Check.INDEX, "keep", 16).is(-1, "fault", false).is(-1, "fault", true);
        c.text("!").is(Check.STATE, "transact", 0, 0L, 0L).text("!").is(Check.ARGUMENT, "mint", 0L, 0L).text("!").is(Check.ARGUMENT, "parameter", 0L).is(-1, "fault", false).is(-1, "fault", true);
        c.text("!").is(1, "show").is(0, "forget").is(-1, "fault", false);
    }

    static void promise8OfTheLatestText() {
        Check c = new Check().text("close").is(1, "keep", 0).is(0, "fault", false).is(-1, "fault", true).is(0, "begin", 0, 0, 0L);
        c.text("  !").is(-1, "keep", 1).is(1, "fault", false).is(2, "fault", true);
        c.text("1").is(0, "mint", ADA, GOLD).is(0, "fault", false).is(-1, "fault", true).text("1 x").is(-1, "mint", ADA, GOLD).is(9, "fault", false).is(2, "fault", true);
        c.text("").is(-6, "transact", 0, 0L, 0L).is(0, "fault", false).text("notify x").is(-1, "transact", 0, 0L, 0L).is(4, "fault", false).is(7, "fault", true);
        c.text("5").is(1, "parameter", ADA).is(0, "fault", false).is(-1, "fault", true).text("").is(-1, "parameter", ADA).is(3, "fault", false).is(0, "fault", true);
        // calls that read no text leave it
        c.is(0, "end", 0).is(0, "drop", 0).is(1, "forget").is(3, "fault", false).is(0, "fault", true).is("void", "cut").is(3, "fault", false).is(0, "fault", true);
        c.ask("recover");
        c.is(-1, "fault", false).is(-1, "fault", true);
    }

    static void promise8EachFault() {
        Check c = new Check();
        String[] texts = {"!", "let x 1" + NINES + " close", "let", "c", "when [] -1 close", "when [case choice c a [2 1] close] 1 close",
            "let x " + "neg ".repeat(100) + "1 close", "when [" + "case notify true close ".repeat(9) + "] 1 close", "close close"};
        int[] places = {0, 6, 3, 0, 8, 25, 406, 6 + 8 * 23, 6};
        for (int i = 0; i < texts.length; i++) c.faulty(0, i + 1, places[i], texts[i]);
    }

    static void promise9DropsAt0To15() {
        Check c = new Check().keep(0, "close").keep(15, "close");
        for (int k : NO_PLACES) c.refuses(Check.INDEX, "drop", k);
        c.refuses(Check.STATE, "drop", 1).refuses(Check.STATE, "drop", 14).is(0, "drop", 0).refuses(Check.STATE, "drop", 0).is(0, "drop", 15).is(0, "told", 0).is(2, "told", 5);
        c.text("close").is(1, "keep", 0).is(1, "told", 0).is(3, "told", 5);
    }

    static void promise9InstancesGoOn() {
        Check c = new Check().keep(0, "when [case notify true let x 7 when [] 20 close] 9 close").is(0, "begin", 3, 0, 0L).is(0, "drop", 0).refuses(Check.STATE, "print", 0);
        c.keep(0, "let y 1 close").writes("when [ case notify true let x 7 when [ ] 20 close ] 9 close", "rest", 3).transact(0, 3, 0, 0, "notify").writes("7", "entry", 3, 3, 0);
        c.is(5, "recover").writes("when [ ] 20 close", "rest", 3).transact(0, 3, 20, 20, "").is(0, "end", 3);
    }

    static void promise9FullByOneByte() {
        for (int room = 14; room <= 16; room++) {
            Check c = new Check().keep(3, "close").fillTo(16384 - room);
            if (room < 15) c.refuses(-10, "drop", 3).writes("close", "print", 3);
            else c.is(0, "drop", 3).refuses(Check.STATE, "print", 3);
        }
    }

    static void promise10PrintsAt0To15() {
        Check c = new Check().keep(0, "close").keep(15, "when[]00 close");
        for (int k : NO_PLACES) c.refuses(Check.INDEX, "print", k);
        c.refuses(Check.STATE, "print", 1).refuses(Check.STATE, "print", 14).writes("close", "print", 0).writes("when [ ] 0 close", "print", 15);
    }

    static void promise10NumbersWithoutNeedlessZeros() {
        String[][] rows = {{"0", "0"}, {"-0", "0"}, {"000", "0"}, {"-001", "-1"}, {"010", "10"}, {"1000000000", "1000000000"}, {"0999999999", "999999999"}, {"-1000000000000000000", "-1000000000000000000"},
            {"1000000001", "1000000001"}, {NINES, NINES}, {"-0" + NINES, "-" + NINES}, {"1" + "0".repeat(299), "1" + "0".repeat(299)}};
        for (String[] row : rows) {
            new Check().keep(0, "let x " + row[0] + " close").writes("let x " + row[1] + " close", "print", 0);
            new Check().keep(0, "when [case choice c a [" + row[0] + " " + row[0] + "] close] 1 close").writes("when [ case choice c a [ " + row[1] + " " + row[1] + " ] close ] 1 close", "print", 0);
        }
        for (String[] row : new String[][] {{"00", "0"}, {"01", "1"}, {"001000000000000000", "1000000000000000"}, {"999999999", "999999999"}, {"1000000000", "1000000000"}}) {
            new Check().keep(0, "when [] " + row[0] + " close").writes("when [ ] " + row[1] + " close", "print", 0);
        }
    }

    static void promise10MostOfEach() {
        String eight = "case choice abcdefgh abcdefgh [ -1 -1 0 0 1 1 2 2 ] close ".repeat(8);
        String text = "when [ " + eight + "] 1000000000000000 close";
        new Check().keep(0, text).writes(text, "print", 0);
        String deep = "let x " + "neg ".repeat(99) + "1 close";
        new Check().keep(0, deep).writes(deep, "print", 0);
        String most = ContractsTest.ofNodes(1000);
        new Check().keep(0, most).writes(most, "print", 0);
        String wide = "when [ case notify true ".repeat(50) + "close" + " ] 5 close".repeat(50);
        new Check().keep(0, wide).writes(wide, "print", 0);
    }

    static void promise11AboutAt0To15And0To4() {
        Check c = new Check().keep(0, "close").keep(15, "when [] 7 close");
        for (int k : NO_PLACES) c.refuses(Check.INDEX, "about", k, 0).refuses(Check.INDEX, "about", k, 5);
        for (int what : new int[] {-1, 5, Integer.MIN_VALUE, Integer.MAX_VALUE}) c.refuses(Check.ARGUMENT, "about", 0, what).refuses(Check.ARGUMENT, "about", 1, what);
        for (int what = 0; what < 5; what++) c.refuses(Check.STATE, "about", 1, what);
        long[] first = {-1, 1, 0, 0, 0};
        long[] last = {7, 2, 0, 1, 0};
        for (int what = 0; what < 5; what++) c.is(first[what], "about", 0, what).is(last[what], "about", 15, what);
    }

    static void promise11OfItsOwnTextAlone() {
        // a contract that stands behind it, or a text that was none, does not count
        String more = "when [case deposit a b c ?p pay a into b c 1 close] 9 when [] ?t close";
        for (String next : new String[] {more, "when [] ?t close", "when [] 9 close", "pay a into b c ?p close", "if true close close"}) {
            Check c = new Check().keep(0, "close").keep(1, next).keep(2, "let x 1 close").text(next + " !").is(-1, "keep", 3);
            long[] due = {-1, 1, 0, 0, 0};
            for (int what = 0; what < 5; what++) c.is(due[what], "about", 0, what).is(what == 1 ? 3 : due[what], "about", 2, what);
            c.writes("close", "print", 0).writes("let x 1 close", "print", 2);
        }
    }

    static void promise11GreatestTime() {
        Check c = new Check().keep(0, "when [] ?t close").is(-1, "about", 0, 0).keep(1, "when [] 0 close").is(0, "about", 1, 0).keep(2, "when [] ?t when [] 3 when [] 2 close").is(3, "about", 2, 0);
        c.keep(3, "when [case notify true when [] 1000000000000000 close] 999999999999999 close").is(1000000000000000L, "about", 3, 0);
        c.keep(4, "if true when [] 5 close when [] 6 close").is(6, "about", 4, 0).keep(5, "let x 99 when [] 5 close").is(5, "about", 5, 0);
    }

    static void promise11Nodes() {
        Check c = new Check();
        for (int nodes : new int[] {3, 4, 999, 1000}) c.text(ContractsTest.ofNodes(nodes)).is(nodes, "keep", 0).is(nodes, "about", 0, 1).is(0, "drop", 0);
    }

    static void promise11DifferentParameters() {
        Check c = new Check().keep(0, "let x 1 close").is(0, "about", 0, 2).keep(1, "let x add ?a ?a when [] ?a close").is(1, "about", 1, 2).keep(2, "let x add ?a ?b when [] ?c close").is(3, "about", 2, 2);
        c.keep(3, "when [] ?t when [] ?t when [] ?u close").is(2, "about", 3, 2).keep(4, "let a use a let b held b b close").is(0, "about", 4, 2);
        StringBuilder many = new StringBuilder();
        for (int i = 0; i < 60; i++) many.append("let x ?p").append(i).append(' ');
        c.keep(5, many + "close").is(60, "about", 5, 2);
    }

    static void promise11WhensInOneAnother() {
        Check c = new Check().keep(0, "close").is(0, "about", 0, 3).keep(1, "when [] 1 close").is(1, "about", 1, 3).keep(2, "when [] 1 when [] 2 close").is(2, "about", 2, 3);
        c.keep(3, "when [case notify true when [] 1 close] 3 close").is(2, "about", 3, 3).keep(4, "if true when [] 1 close when [] 1 close").is(1, "about", 4, 3);
        c.keep(5, "when [case notify true when [] 1 when [] 2 close case notify true when [] 1 close] 3 when [] 4 close").is(3, "about", 5, 3);
        c.keep(6, "when [] 1 ".repeat(100) + "close").is(100, "about", 6, 3);
    }

    static void promise11AccountsItMayEverHave() {
        Check c = new Check().keep(0, "pay a to b c 1 close").is(0, "about", 0, 4).keep(1, "pay a into b c 1 close").is(1, "about", 1, 4).keep(2, "pay a into b c 1 pay x into b c 1 close").is(1, "about", 2, 4);
        c.keep(3, "pay a into b c 1 pay a into b d 1 pay a into c b 1 close").is(3, "about", 3, 4);
        c.keep(4, "when [case deposit b x c 1 pay a into b c 1 close case deposit b y c 1 close case deposit y b c 1 close] 9 close").is(2, "about", 4, 4);
        StringBuilder many = new StringBuilder();
        for (int i = 0; i < 60; i++) many.append("pay a into p").append(i).append(" c 1 ");
        c.keep(5, many + "close").is(60, "about", 5, 4);
    }
}
