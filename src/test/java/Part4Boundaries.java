/** Terms, part 4: instances, reducing, inputs, transactions. */
final class Part4Boundaries {
    static final String NINES = "9".repeat(300);
    static final long LAST = 1000000000000000L;
    static final String WAITING = "when [] 900 close";
    static final long ADA = Check.n("ada");
    static final long BOB = Check.n("bob");
    static final long GOLD = Check.n("gold");

    /** Instance 0 of a contract, with LEAST TIME 10; ada has 1000 gold, bob has 50 oil. */
    static Check begun(String contract) {
        return new Check().mint("ada", "gold", 1000).mint("bob", "oil", 50).keep(0, contract).is(0, "begin", 0, 0, 10L);
    }

    static Check refused(Check c, int code, long start, long end, String inputs) {
        return c.refusesText(code, inputs, "transact", 0, start, end);
    }

    // ---- INSTANCES 0 .. 15 are begun, or not (at first none is)

    static void part4InstancesAre0To15() {
        Check c = new Check().keep(0, "close");
        for (int i = 0; i < 16; i++) c.is(Check.STATE, "rest", i).is(0, "begin", i, 0, 0L).is(i + 1, "told", 1).writes("close", "rest", i);
        for (int i : new int[] {-1, 16, Integer.MIN_VALUE, Integer.MAX_VALUE}) {
            c.refuses(Check.INDEX, "begin", i, 0, 0L).refuses(Check.INDEX, "end", i).refusesText(Check.INDEX, "notify", "transact", i, 0L, 0L).refuses(Check.INDEX, "rest", i);
            c.refuses(Check.INDEX, "state", i, 0).refuses(Check.INDEX, "entry", i, 1, 0).refuses(Check.INDEX, "name", i, 1, 0, false).refuses(Check.INDEX, "look", i, false, 1, 1);
        }
        for (int i = 15; i >= 0; i--) c.is(0, "end", i).is(i, "told", 1).refuses(Check.STATE, "rest", i);
    }

    static void part4StateHasNothingAtFirst() {
        Check c = new Check().keep(0, "when [] 9 close");
        for (long time : new long[] {0, 1, LAST}) {
            c.is(0, "begin", (int) (time % 7), 0, time).is(time, "state", (int) (time % 7), 0);
            for (int what = 1; what < 6; what++) c.is(0, "state", (int) (time % 7), what);
        }
    }

    // ---- a state has at most 40 accounts, 40 choices, 40 lets

    static void part4AccountsAre40AtMostByDeposits() {
        Check c = new Check().mint("ada", "gold", 1000).keep(0, TransactionsTest.depositsOf(0, 40, "when [case deposit p40 ada gold 1 " + WAITING + " case deposit p7 ada gold 1 " + WAITING
                + " case deposit p40 ada gold 0 " + WAITING + "] 9 close")).is(0, "begin", 0, 0, 0L);
        c.transact(0, 0, 0, 0, TransactionsTest.inputsOf(0, 39)).is(39, "state", 0, 1).transact(0, 0, 0, 0, TransactionsTest.inputsOf(39, 40)).is(40, "state", 0, 1);
        refused(c, -9, 0, 0, "deposit p40 ada gold 1");
        // an account that there is already, and a deposit of 0, are none more
        c.is(0, "begin", 1, 0, 0L).transact(0, 1, 0, 0, TransactionsTest.inputsOf(0, 40)).transact(0, 1, 0, 0, "deposit p40 ada gold 0").is(40, "state", 1, 1);
        c.transact(0, 0, 0, 0, "deposit p7 ada gold 1").is(40, "state", 0, 1).conserved();
    }

    static void part4AccountsAre40AtMostByPaysInto() {
        for (int accounts = 39; accounts <= 41; accounts++) {
            StringBuilder pays = new StringBuilder();
            for (int i = 1; i < accounts; i++) pays.append("pay p into p").append(i).append(" gold 1 ");
            Check c = new Check().mint("ada", "gold", 1000).keep(0, "when [case deposit p ada gold 100 " + pays + WAITING + "] 9 close").is(0, "begin", 0, 0, 0L);
            if (accounts == 41) refused(c, -9, 0, 0, "deposit p ada gold 100");
            else c.transact(0, 0, 0, 0, "deposit p ada gold 100").is(accounts, "state", 0, 1).conserved();
        }
        // the 41st comes when one has gone: of its payer's all it has
        for (int held = 39; held <= 40; held++) {
            StringBuilder pays = new StringBuilder();
            for (int i = 1; i < 40; i++) pays.append("pay p into p").append(i).append(" gold 1 ");
            Check c = new Check().mint("ada", "gold", 1000).keep(0, "when [case deposit p ada gold " + (held + 1) + " " + pays + "pay p into q gold 1 " + WAITING + "] 9 close").is(0, "begin", 0, 0, 0L);
            if (held == 40) refused(c, -9, 0, 0, "deposit p ada gold 41");
            else c.transact(0, 0, 0, 0, "deposit p ada gold 40").is(40, "state", 0, 1).conserved();
        }
    }

    static void part4ChoicesAre40AtMost() {
        StringBuilder head = new StringBuilder();
        StringBuilder inputs = new StringBuilder();
        for (int i = 0; i < 39; i++) {
            head.append("when [case choice c").append(i).append(" ada [1 1] ");
            inputs.append("choice c").append(i).append(" ada 1 ");
        }
        String last = "when [case choice d ada [1 1] when [case choice d bob [1 1] close case choice c7 ada [5 5] " + WAITING + "] 900 close] 900 close";
        Check c = begun(head + last + "] 900 close".repeat(39));
        c.transact(0, 0, 10, 10, inputs.toString()).is(39, "state", 0, 2).transact(0, 0, 10, 10, "choice d ada 1").is(40, "state", 0, 2);
        refused(c, -9, 10, 10, "choice d bob 1").transact(0, 0, 10, 10, "choice c7 ada 5").is(40, "state", 0, 2);
    }

    static void part4LetsAre40AtMost() {
        for (int lets = 39; lets <= 41; lets++) {
            StringBuilder text = new StringBuilder();
            for (int i = 0; i < lets; i++) text.append("let a").append(i).append(" 1 ");
            Check c = begun(text + WAITING);
            if (lets == 41) refused(c, -9, 10, 10, "");
            else c.transact(0, 0, 10, 10, "").is(lets, "state", 0, 3);
            // one that has its NAME already is none more
            c = begun(text + "let a0 2 " + WAITING);
            if (lets == 41) refused(c, -9, 10, 10, "");
            else c.transact(0, 0, 10, 10, "").is(lets, "state", 0, 3).is(1, "count", 1);
        }
        StringBuilder text = new StringBuilder();
        for (int i = 0; i < 40; i++) text.append("let a").append(i).append(" 1 ");
        // over two transactions
        Check c = begun(text + "when [case notify true let b 1 close case notify false close] 900 let a3 1 close").transact(0, 0, 10, 10, "");
        refused(c, -9, 10, 10, "notify").transact(0, 0, 900, 900, "").is(40, "state", 0, 3);
    }

    // ---- all are in order: by party, then token; by NAME, then party; by NAME

    static void part4EntriesAreInOrder() {
        String[][] names = {{"z", "aa"}, {"a", "b"}, {"a", "a"}, {"aa", "a"}, {"z", "b"}, {"zz", "a"}, {"aa", "zz"}};
        int[] order = {2, 1, 4, 0, 3, 6, 5};
        StringBuilder head = new StringBuilder();
        StringBuilder inputs = new StringBuilder();
        StringBuilder lets = new StringBuilder();
        Check c = new Check();
        for (int i = 0; i < names.length; i++) {
            String two = names[i][0] + " " + names[i][1];
            c.mint("ada", names[i][1], 100);
            head.append("when [case deposit ").append(names[i][0]).append(" ada ").append(names[i][1]).append(" ").append(i + 1).append(" when [case choice ").append(two).append(" [0 9] ");
            inputs.append("deposit ").append(names[i][0]).append(" ada ").append(names[i][1]).append(" ").append(i + 1).append(" choice ").append(two).append(" ").append(i).append(" ");
        }
        String[] single = {"zz", "z", "a0", "aa", "a"};
        for (String name : single) {
            c.set(name, name.length());
            lets.append("let ").append(name).append(" 1 ");
        }
        c.keep(0, head + lets.toString() + WAITING + "] 900 close] 900 close".repeat(names.length)).is(0, "begin", 0, 0, 0L).transact(0, 0, 0, 0, inputs.toString());
        for (int e = 0; e < order.length; e++) {
            for (int what = 1; what <= 2; what++) {
                c.is(Check.n(names[order[e]][0]), "name", 0, what, e, false).is(Check.n(names[order[e]][1]), "name", 0, what, e, true);
                c.writes("" + (what == 1 ? order[e] + 1 : order[e]), "entry", 0, what, e);
            }
        }
        String[] sorted = {"a", "z", "a0", "aa", "zz"};
        for (int e = 0; e < 5; e++) c.is(Check.n(sorted[e]), "name", 0, 3, e, false).is(Check.n(sorted[e]), "name", 0, 4, e, false).writes("" + sorted[e].length(), "entry", 0, 4, e);
    }

    // ---- or by which there would be more than 60 payments, or 60 warnings

    static void part4PaymentsAre60AtMost() {
        for (String way : new String[] {"to bob", "into bob", "into ada"}) {
            for (int n = 59; n <= 61; n++) {
                Check c = begun("when [case deposit ada ada gold 900 " + ("pay ada " + way + " gold 1 ").repeat(n) + WAITING + "] 900 close");
                if (n == 61) refused(c, -9, 10, 10, "deposit ada ada gold 900").is(0, "count", 0);
                else c.transact(0, 0, 10, 10, "deposit ada ada gold 900").is(n, "count", 0).payment(n - 1, way.startsWith("to") ? 0 : 1, "ada", way.split(" ")[1], "gold", "1").conserved();
            }
        }
        // pays that pay nothing are none
        begun("pay ada to bob gold 0 ".repeat(30) + "pay ada to bob gold 1 ".repeat(30) + WAITING).transact(0, 0, 10, 10, "").is(0, "count", 0).is(60, "count", 1);
    }

    static void part4PaymentsOfACloseCount() {
        for (int n = 58; n <= 60; n++) {
            Check c = begun("when [case deposit ada ada gold 900 when [case deposit bob bob oil 1 " + "pay ada to bob gold 1 ".repeat(n) + "close] 900 close] 900 close");
            if (n == 58) c.transact(0, 0, 10, 10, "deposit ada ada gold 900 deposit bob bob oil 1").is(60, "count", 0).is(1, "state", 0, 5).conserved();
            else refused(c, -9, 10, 10, "deposit ada ada gold 900 deposit bob bob oil 1");
        }
    }

    static void part4WarningsAre60AtMost() {
        for (int n = 59; n <= 61; n++) {
            for (String one : new String[] {"pay ada to bob gold 0 ", "pay ada into bob gold -1 ", "pay ada to bob gold 1 ", "assert false ", "let x 1 "}) {
                boolean let = one.startsWith("let");
                Check c = begun((let ? one : "") + one.repeat(n) + WAITING);
                if (n == 61) refused(c, -9, 10, 10, "").is(0, "count", 1);
                else c.transact(0, 0, 10, 10, "").is(n, "count", 1);
            }
            // the last one is a deposit's
            Check c = begun("when [case notify true " + "assert false ".repeat(n - 1) + "when [case deposit ada ada gold 0 " + WAITING + "] 900 close] 900 close");
            if (n == 61) refused(c, -9, 10, 10, "notify deposit ada ada gold 0");
            else c.transact(0, 0, 10, 10, "notify deposit ada ada gold 0").is(n, "count", 1).warning(n - 1, 1, "ada", "ada", "gold", "0");
        }
    }

    // ---- close: if there are accounts the first one pays all it has; a close without accounts is QUIET

    static void part4ClosePaysAllAccountsInOrder() {
        String two = "when [case deposit eve ada gold 1 when [case deposit bob bob oil 2 close] 20 close] 20 close";
        begun(two).transact(0, 0, 20, 20, "").is(0, "count", 0).is(1, "state", 0, 5).conserved();
        begun(two).transact(0, 0, 10, 10, "deposit eve ada gold 1").is(0, "state", 0, 5).transact(0, 0, 20, 20, "").is(1, "count", 0)
                .payment(0, 0, "eve", "eve", "gold", "1").is(1, "state", 0, 5).conserved();
        begun(two).transact(0, 0, 10, 10, "deposit eve ada gold 1 deposit bob bob oil 2").is(2, "count", 0).payment(0, 0, "bob", "bob", "oil", "2")
                .payment(1, 0, "eve", "eve", "gold", "1").is(0, "state", 0, 1).is(1, "state", 0, 5).conserved();
        refused(begun("close"), -6, 10, 10, "");
        refused(begun("close"), -5, 10, 10, "notify");
    }

    // ---- pay: if the value is 0 or below: warning 2

    static void part4PayOf0OrBelowWarns() {
        for (String way : new String[] {"to", "into"}) {
            for (int v = -2; v <= 1; v++) {
                Check c = begun("when [case deposit ada ada gold 4 pay ada " + way + " bob gold " + v + " " + WAITING + "] 900 close").transact(0, 0, 10, 10, "deposit ada ada gold 4");
                if (v <= 0) c.is(0, "count", 0).is(1, "count", 1).warning(0, 2, "ada", "bob", "gold", "" + v).is(1, "state", 0, 1).writes("4", "entry", 0, 1, 0);
                else c.is(1, "count", 0).is(0, "count", 1).payment(0, way.equals("to") ? 0 : 1, "ada", "bob", "gold", "1").writes("3", "entry", 0, 1, 0);
                c.conserved();
            }
        }
        // between pays that pay
        Check c = begun("when [case deposit ada ada gold 9 pay ada to bob gold 4 pay ada to bob gold 0 pay ada to bob gold 1 pay ada into bob gold -1 pay eve to bob gold 2 " + WAITING + "] 900 close");
        c.transact(0, 0, 10, 10, "deposit ada ada gold 9").is(2, "count", 0).payment(0, 0, "ada", "bob", "gold", "4").payment(1, 0, "ada", "bob", "gold", "1").is(3, "count", 1);
        c.warning(0, 2, "ada", "bob", "gold", "0").warning(1, 2, "ada", "bob", "gold", "-1").warning(2, 3, "eve", "bob", "gold", "2").writes("4", "entry", 0, 1, 0).conserved();
        begun("pay ada to bob gold neg " + NINES + " " + WAITING).transact(0, 0, 10, 10, "").warning(0, 2, "ada", "bob", "gold", "-" + NINES);
    }

    static void part4PayOfMoreThanIsHeldPaysWhatIsHeld() {
        for (String way : new String[] {"to", "into"}) {
            int sort = way.equals("to") ? 0 : 1;
            for (int v = 3; v <= 5; v++) {
                Check c = begun("when [case deposit ada ada gold 4 pay ada " + way + " bob gold " + v + " " + WAITING + "] 900 close").transact(0, 0, 10, 10, "deposit ada ada gold 4");
                c.is(1, "count", 0).payment(0, sort, "ada", "bob", "gold", "" + Math.min(v, 4)).is(v > 4 ? 1 : 0, "count", 1);
                if (v > 4) c.warning(0, 3, "ada", "bob", "gold", "5");
                // an account with nothing in it goes
                c.is((v < 4 ? 1 : 0) + sort, "state", 0, 1).conserved();
            }
            // no such account: no payment, but the warning; another token's is none
            Check c = begun("when [case deposit ada ada gold 4 pay ada " + way + " bob oil 1 pay bob " + way + " ada gold " + NINES + " " + WAITING + "] 900 close");
            c.transact(0, 0, 10, 10, "deposit ada ada gold 4").is(0, "count", 0).is(2, "count", 1).warning(0, 3, "ada", "bob", "oil", "1").warning(1, 3, "bob", "ada", "gold", NINES).conserved();
        }
    }

    // ---- when: if END is below its time, it stays; if START is not below it: what is behind it; else AMBIGUOUS

    static void part4WhenAtItsTime() {
        String contract = "when [case notify true close] 20 let x 1 " + WAITING;
        refused(begun(contract), -6, 18, 19, "");
        refused(begun(contract), -6, 19, 19, "");
        refused(begun(contract), -4, 18, 20, "");
        refused(begun(contract), -4, 19, 20, "");
        refused(begun(contract), -4, 19, 21, "");
        begun(contract).transact(0, 0, 20, 20, "").is(1, "state", 0, 3);
        begun(contract).transact(0, 0, 20, 21, "").is(1, "state", 0, 3);
        begun(contract).transact(0, 0, 21, 21, "").is(1, "state", 0, 3);
        begun(contract).transact(0, 0, 10, 19, "notify").is(0, "state", 0, 3).is(1, "state", 0, 5);
        refused(begun(contract), -4, 10, 20, "notify");
        refused(begun(contract), -5, 20, 20, "notify");
    }

    static void part4WhenAtTheLeastAndTheGreatestTime() {
        Check c = new Check().keep(0, "when [] 0 when [case notify true close] 1000000000000000 let x 1 close").is(0, "begin", 0, 0, 0L).transact(0, 0, 0, 0, "");
        refused(c, -6, 0, LAST - 1, "");
        refused(c, -4, LAST - 1, LAST, "");
        refused(c, -2, LAST, LAST + 1, "");
        c.transact(0, 0, LAST, LAST, "").is(LAST, "state", 0, 0).is(1, "state", 0, 3);
    }

    static void part4WhenWithAParameterAsItsTime() {
        for (String[] row : new String[][] {{"0", "0"}, {"1", "1"}, {"1000000000000000", "1000000000000000"}}) {
            long time = Long.parseLong(row[1]);
            Check c = new Check().keep(0, "when [] ?t close").set("t", row[0]).is(0, "begin", 0, 0, 0L);
            if (time > 0) refused(c, -6, 0, time - 1, "");
            c.transact(0, 0, time, time, "").is(1, "state", 0, 5);
        }
    }

    // ---- let: warning 4, if there is such a NAME; assert: warning 5, if the observation is false

    static void part4LetAndAssertWarn() {
        Check c = begun("let x 0 let y 1 let x 2 let x 3 " + WAITING).transact(0, 0, 10, 10, "").is(2, "count", 1).warning(0, 4, "x", "", "", "0").warning(1, 4, "x", "", "", "2");
        c.is(2, "state", 0, 3).writes("3", "entry", 0, 3, 0);
        begun("assert true assert false assert not false " + WAITING).transact(0, 0, 10, 10, "").is(1, "count", 1).warning(0, 5, "", "", "", "");
    }

    // ---- an input is applied to a QUIET contract: a deposit whose value is the NUMBER

    static void part4DepositIsTheValueOfTheCase() {
        String contract = "when [case deposit bob ada gold sub 7 2 " + WAITING + "] 900 close";
        for (String none : new String[] {"4", "6", "-5", "0", "50"}) refused(begun(contract), -5, 10, 10, "deposit bob ada gold " + none);
        for (String none : new String[] {"deposit ada ada gold 5", "deposit bob bob gold 5", "deposit bob ada oil 5", "choice bob ada 5", "notify"}) refused(begun(contract), -5, 10, 10, none);
        begun(contract).transact(0, 0, 10, 10, "deposit bob ada gold 005").writes("5", "entry", 0, 1, 0).writes("995", "wallet", ADA, GOLD).conserved();
    }

    static void part4DepositOf0OrBelowWarnsAndDoesNothingElse() {
        for (int v = -2; v <= 1; v++) {
            Check c = begun("when [case deposit bob ada gold " + v + " " + WAITING + "] 900 close").transact(0, 0, 10, 10, "deposit bob ada gold " + v);
            c.is(v <= 0 ? 1 : 0, "count", 1).is(v <= 0 ? 0 : 1, "state", 0, 1).writes(v <= 0 ? "1000" : "999", "wallet", ADA, GOLD).conserved();
            if (v <= 0) c.warning(0, 1, "bob", "ada", "gold", "" + v);
            // a payer without a wallet: 0 is no more than nothing
            c = begun("when [case deposit bob eve gold " + v + " " + WAITING + "] 900 close");
            if (v <= 0) c.transact(0, 0, 10, 10, "deposit bob eve gold " + v);
            else refused(c, -7, 10, 10, "deposit bob eve gold 1");
        }
    }

    static void part4DepositOfMoreThanTheWalletIsPoor() {
        for (int v = 999; v <= 1001; v++) {
            Check c = begun("when [case deposit bob ada gold " + v + " " + WAITING + "] 900 close");
            if (v == 1001) refused(c, -7, 10, 10, "deposit bob ada gold 1001");
            else c.transact(0, 0, 10, 10, "deposit bob ada gold " + v).writes("" + (1000 - v), "wallet", ADA, GOLD).is(v == 1000 ? 1 : 2, "wallets").conserved();
        }
        // the wallet of another token is none
        refused(begun("when [case deposit bob bob gold 1 " + WAITING + "] 900 close"), -7, 10, 10, "deposit bob bob gold 1");
        Check c = new Check().mint("ada", "gold", NINES).keep(0, "when [case deposit bob ada gold " + NINES + " " + WAITING + "] 900 close").is(0, "begin", 0, 0, 0L);
        c.transact(0, 0, 0, 0, "deposit bob ada gold " + NINES).is(0, "wallets").writes(NINES, "entry", 0, 1, 0).conserved();
    }

    // ---- with a pair of bounds between which the NUMBER is (or that it is)

    static void part4ChoiceIsBetweenBounds() {
        String contract = "when [case choice c ada [-3 -1 1 1 5 8 20 20] " + WAITING + "] 900 close";
        for (int v = -5; v <= 22; v++) {
            boolean taken = v >= -3 && v <= -1 || v == 1 || v >= 5 && v <= 8 || v == 20;
            Check c = begun(contract);
            if (taken) c.transact(0, 0, 10, 10, "choice c ada " + v).writes("" + v, "entry", 0, 2, 0);
            else refused(c, -5, 10, 10, "choice c ada " + v);
        }
        String wide = "when [case choice c ada [-" + NINES + " " + NINES.substring(1) + "] " + WAITING + "] 900 close";
        for (String v : new String[] {"-" + NINES, NINES.substring(1), "0"}) begun(wide).transact(0, 0, 10, 10, "choice c ada " + v).writes(v, "entry", 0, 2, 0);
        refused(begun(wide), -5, 10, 10, "choice c ada 1" + "0".repeat(299));
        for (String none : new String[] {"choice c bob 1", "choice d ada 1", "deposit c ada gold 1", "notify"}) refused(begun(contract), -5, 10, 10, none);
    }

    static void part4ChoiceComesInPlaceOfTheOneBefore() {
        String contract = "when [case choice c ada [0 9] when [case choice c ada [0 9] " + WAITING + " case choice c bob [0 9] " + WAITING + "] 900 close] 900 close";
        begun(contract).transact(0, 0, 10, 10, "choice c ada 3 choice c ada 4").is(1, "state", 0, 2).writes("4", "entry", 0, 2, 0);
        begun(contract).transact(0, 0, 10, 10, "choice c ada 3 choice c bob 4").is(2, "state", 0, 2).writes("3", "entry", 0, 2, 0).writes("4", "entry", 0, 2, 1);
    }

    static void part4NotifyWhoseObservationIsTrue() {
        String contract = "when [case notify ge start 12 let x 1 " + WAITING + " case notify lt start 11 let y 1 " + WAITING + "] 900 close";
        begun(contract).transact(0, 0, 10, 11, "notify").is(Check.n("y"), "name", 0, 3, 0, false);
        refused(begun(contract), -5, 11, 12, "notify");
        begun(contract).transact(0, 0, 12, 12, "notify").is(Check.n("x"), "name", 0, 3, 0, false);
        refused(begun("when [] 900 close"), -5, 10, 10, "notify");
    }

    static void part4FirstCaseThatTakesIt() {
        StringBuilder cases = new StringBuilder();
        for (int i = 0; i < 8; i++) cases.append("case choice c ada [").append(i).append(" 9] let a").append(i).append(" 1 ").append(WAITING).append(' ');
        // of the eighth, too
        String last = cases.toString().replace("[7 9]", "[-9 9]");
        begun("when [" + last + "] 900 close").transact(0, 0, 10, 10, "choice c ada -1").is(Check.n("a7"), "name", 0, 3, 0, false);
        begun("when [" + cases + "] 900 close").transact(0, 0, 10, 10, "choice c ada 7").is(Check.n("a0"), "name", 0, 3, 0, false);
    }

    // ---- A TRANSACTION has an interval and inputs, 0 to 40

    static void part4TransactionHas40InputsAtMost() {
        String chain = "when [case notify true ".repeat(42) + WAITING + "] 900 close".repeat(42);
        for (int n = 39; n <= 41; n++) {
            Check c = begun(chain);
            if (n == 41) refused(c, -1, 10, 10, "notify ".repeat(41)).is(9, "fault", false).is(280, "fault", true);
            else c.transact(0, 0, 10, 10, "notify ".repeat(n)).writes(chainRest(n), "rest", 0);
        }
        begun(chain).transact(0, 0, 10, 10, "notify ".repeat(40)).transact(0, 0, 10, 10, "notify notify").writes(WAITING.replace("[]", "[ ]"), "rest", 0);
    }

    static String chainRest(int taken) {
        return "when [ case notify true ".repeat(42 - taken) + "when [ ] 900 close" + " ] 900 close".repeat(42 - taken);
    }

    // ---- -2 START is above END (or one is none: 0 .. 1000000000000000); -3 PAST: END is below the LEAST TIME

    static void part4IntervalThatIsNone() {
        String contract = "when [case notify true when [case notify true " + WAITING + "] 900 close] 900 close";
        for (long[] none : new long[][] {{11, 10}, {-1, 10}, {-1, -1}, {0, LAST + 1}, {LAST + 1, LAST + 1}, {Long.MIN_VALUE, 10}, {10, Long.MAX_VALUE}, {Long.MIN_VALUE, Long.MAX_VALUE},
            {Long.MAX_VALUE, Long.MIN_VALUE}, {LAST, LAST - 1}, {1, 0}}) {
            refused(begun(contract), -2, none[0], none[1], "notify");
        }
        begun(contract).transact(0, 0, 10, 10, "notify").transact(0, 0, 0, 11, "notify");
        // -2 is looked at before -3
        refused(begun(contract), -2, 9, 8, "notify");
        refused(begun(contract), -2, -1, 9, "notify");
    }

    static void part4EndBelowTheLeastTimeIsPast() {
        String contract = "when [case notify true when [case notify true " + WAITING + "] 900 close] 900 close";
        for (long end = 9; end <= 11; end++) {
            Check c = begun(contract);
            if (end == 9) refused(c, -3, 0, 9, "notify");
            else c.transact(0, 0, 0, end, "notify").is(10, "state", 0, 0);
        }
        // DONE: the LEAST TIME is START
        Check c = begun(contract).transact(0, 0, 12, 15, "notify").is(12, "state", 0, 0);
        refused(c, -3, 0, 11, "notify").transact(0, 0, 0, 12, "notify").is(12, "state", 0, 0);
        // -3 is looked at before the contract is
        refused(begun("let x add " + NINES + " 1 close"), -3, 9, 9, "");
    }

    // ---- at the end -6 USELESS: no input, and the contract is what it was before

    static void part4UselessWithoutInputAndChange() {
        refused(begun("when [] 11 close"), -6, 10, 10, "");
        begun("when [] 10 close").transact(0, 0, 10, 10, "").is(1, "state", 0, 5);
        refused(begun("close"), -6, 10, 10, "");
        // blanks are no input
        refused(begun("close"), -6, 10, 10, " \n");
        // a time that goes on is no change of the contract
        refused(begun("when [] 900 close"), -6, 500, 600, "").is(10, "state", 0, 0);
        begun("when [case notify true " + WAITING + "] 900 close").transact(0, 0, 10, 10, "notify").text("").refuses(-6, "transact", 0, 10L, 10L);
        begun("if true " + WAITING + " close").transact(0, 0, 10, 10, "");
        begun("let x 1 close").transact(0, 0, 10, 10, "").is(1, "state", 0, 5);
    }

    // ---- it is REFUSED, and nothing is changed, by the first of these that is met

    static void part4RefusedBehindWhatWasDoneChangesNothing() {
        String large = "add " + NINES + " 1";
        String head = "let x 1 when [case deposit ada ada gold 100 pay ada to bob gold 60 pay ada to eve gold 90 assert false let x 2 when [case choice c ada [1 5] ";
        String tail = "] 30 close] 40 close";
        String inputs = "deposit ada ada gold 100 choice c ada 3 ";
        refused(begun(head + "when [] 12 close" + tail), -4, 10, 20, inputs);
        refused(begun(head + WAITING + tail), -5, 10, 20, inputs + "notify");
        refused(begun(head + "when [case deposit ada eve gold 41 close] 50 close" + tail), -7, 10, 20, inputs + "deposit ada eve gold 41");
        refused(begun(head + "let y " + large + " close" + tail), -8, 10, 20, inputs);
        refused(begun(head + "assert false ".repeat(58) + WAITING + tail), -9, 10, 20, inputs);
        begun(head + "assert false ".repeat(57) + WAITING + tail).transact(0, 0, 10, 20, inputs).is(60, "count", 1).conserved();
        begun(head + "when [case deposit ada eve gold 40 " + WAITING + "] 50 close" + tail).transact(0, 0, 10, 20, inputs + "deposit ada eve gold 40").conserved();
    }

    static void part4FirstRefusalThatIsMet() {
        String large = "add " + NINES + " 1";
        // the contract is reduced first, then each input is applied
        refused(begun("let x " + large + " close"), -8, 10, 10, "notify");
        refused(begun("assert false ".repeat(61) + "let x " + large + " close"), -9, 10, 10, "");
        refused(begun("assert false ".repeat(60) + "let x " + large + " assert false close"), -8, 10, 10, "");
        refused(begun("when [] 11 close"), -4, 10, 11, "notify");
        refused(begun("when [case notify true let x " + large + " close] 900 close"), -5, 10, 10, "choice c ada 1 notify");
        refused(begun("when [case notify true let x " + large + " close] 900 close"), -8, 10, 10, "notify choice c ada 1");
        refused(begun("when [case deposit ada bob gold 1 let x " + large + " close] 900 close"), -7, 10, 10, "deposit ada bob gold 1");
        // POOR before the account would be one too many
        Check c = new Check().mint("ada", "gold", 40).keep(0, TransactionsTest.depositsOf(0, 40, "when [case deposit p40 ada gold 1 close] 9 close")).is(0, "begin", 0, 0, 0L);
        c.transact(0, 0, 0, 0, TransactionsTest.inputsOf(0, 40));
        refused(c, -7, 0, 0, "deposit p40 ada gold 1").mint("ada", "gold", 1);
        refused(c, -9, 0, 0, "deposit p40 ada gold 1");
    }

    // ---- payments to parties were put to their wallets when they were met

    static void part4PaymentsAreInTheWalletsAtOnce() {
        for (int v = 59; v <= 61; v++) {
            Check c = begun("when [case deposit ada ada gold 100 pay ada to eve gold 60 when [case deposit eve eve gold " + v + " " + WAITING + "] 20 close] 20 close");
            if (v == 61) refused(c, -7, 10, 10, "deposit ada ada gold 100 deposit eve eve gold 61");
            else c.transact(0, 0, 10, 10, "deposit ada ada gold 100 deposit eve eve gold " + v).writes("" + (60 - v), "wallet", Check.n("eve"), GOLD).conserved();
        }
    }

    // ---- its PAYMENTS and WARNINGS are told till the next transaction that is DONE

    static void part4PaymentsAndWarningsAreToldTillTheNext() {
        Check c = begun("when [case deposit ada ada gold 7 pay ada to bob gold 8 " + WAITING + "] 20 close").is(0, "begin", 1, 0, 0L).is(0, "count", 0).is(0, "count", 1);
        c.transact(0, 0, 10, 10, "deposit ada ada gold 7").is(1, "count", 0).is(1, "count", 1);
        for (int code : new int[] {-2, -3, -4, -5, -6}) {
            long start = code == -2 ? 12 : code == -3 ? 9 : 10;
            long end = code == -2 ? 11 : code == -3 ? 9 : code == -4 ? 900 : 11;
            refused(c, code, start, end, code == -5 ? "notify" : "").is(1, "count", 0).is(1, "count", 1);
        }
        // behind recover() those of the last one that it did again
        c.is(6, "recover").is(1, "count", 0).payment(0, 0, "ada", "bob", "gold", "7").warning(0, 3, "ada", "bob", "gold", "8");
        c.transact(0, 1, 20, 20, "").is(0, "count", 0).is(0, "count", 1).is(7, "recover").is(0, "count", 0).is(0, "count", 1);
    }
}
