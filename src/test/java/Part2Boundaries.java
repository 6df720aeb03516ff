/** Terms, part 2: contracts, and the faults of their texts. */
final class Part2Boundaries {
    static final String NINES = "9".repeat(300);
    static final String LAST = "1000000000000000";
    static final String CASE = "case notify true close ";

    /** A text that is kept as contract 0, and dropped again. */
    static Check taken(Check c, int nodes, String text) {
        return c.text(text).is(nodes, "keep", 0).is(0, "fault", false).is(-1, "fault", true).is(0, "drop", 0);
    }

    static Check refused(Check c, int fault, int place, String text) {
        return c.refusesText(-1, text, "keep", 0).is(fault, "fault", false).is(place, "fault", true);
    }

    // ---- cases, one behind the other, 0 to 8

    static void part2WhenHas0To8Cases() {
        Check c = new Check();
        taken(c, 2, "when [] 1 close");
        taken(c, 5, "when [" + CASE + "] 1 close");
        taken(c, 23, "when [" + CASE.repeat(7) + "] 1 close");
        taken(c, 26, "when [" + CASE.repeat(8) + "] 1 close");
        refused(c, 8, 6 + 8 * CASE.length(), "when [" + CASE.repeat(9) + "] 1 close");
        refused(c, 8, 6 + 8 * CASE.length(), "when [" + CASE.repeat(8) + "case");
        refused(c, 4, 6 + 8 * CASE.length(), "when [" + CASE.repeat(8) + "close");
        // each when counts its own cases
        taken(c, 51, "when [" + CASE.repeat(7) + "case notify true when [" + CASE.repeat(8) + "] 1 close ] 1 close");
        String eight = "when [" + CASE.repeat(7) + "case notify true when [" + CASE.repeat(8) + "] 1 close ";
        refused(c, 8, eight.length(), eight + CASE + "] 1 close");
    }

    // ---- time is a NUMBER 0 .. 1000000000000000, or a PARAMETER

    static void part2TimeIs0To1000000000000000() {
        Check c = new Check();
        for (String time : new String[] {"0", "-0", "1", "999999999999999", LAST, "000" + LAST, "?t"}) taken(c, 2, "when [] " + time + " close");
        for (String time : new String[] {"-1", "1000000000000001", "-" + LAST, "10000000000000000", "18446744073709551616", "4294967296000000000", NINES, "-" + NINES}) {
            refused(c, 5, 8, "when [] " + time + " close");
        }
        for (String time : new String[] {"t", "start", "(5)", "[", "]", "close", "add 1 1"}) refused(c, 4, 8, "when [] " + time + " close");
        refused(c, 3, 7, "when []");
    }

    // ---- 1 to 4 pairs of NUMBERS, the first one of each not above the second one

    static void part2ChoiceHas1To4Pairs() {
        Check c = new Check();
        String head = "when [case choice x ada [";
        refused(c, 4, 25, head + "] close] 1 close");
        taken(c, 4, head + "1 2] close] 1 close");
        taken(c, 4, head + "1 2 1 2 1 2] close] 1 close");
        taken(c, 4, head + "1 2 1 2 1 2 1 2] close] 1 close");
        refused(c, 8, 41, head + "1 2 1 2 1 2 1 2 1 2] close] 1 close");
        refused(c, 8, 41, head + "1 2 1 2 1 2 1 2 9");
        // half a pair
        refused(c, 4, 26, head + "1] close] 1 close");
        refused(c, 4, 30, head + "1 2 1] close] 1 close");
        refused(c, 4, 38, head + "1 2 1 2 1 2 1] close] 1 close");
        refused(c, 4, 27, head + "1 x] close] 1 close");
        refused(c, 4, 27, head + "1 ?x] close] 1 close");
    }

    static void part2FirstBoundIsNotAboveTheSecond() {
        Check c = new Check();
        String[][] rows = {{"5", "4", "5", "6"}, {"0", "-1", "0", "1"}, {"-5", "-6", "-5", "-4"}, {NINES, NINES.substring(1) + "8", NINES, null}, {"-" + NINES, null, "-" + NINES, "0"},
            {"1000000000", "999999999", "1000000000", "1000000001"}};
        for (String[] row : rows) {
            String head = "when [case choice x ada [" + row[0] + " ";
            if (row[1] != null) refused(c, 6, head.length(), head + row[1] + "] close] 1 close");
            taken(c, 4, head + row[2] + "] close] 1 close");
            if (row[3] != null) taken(c, 4, head + row[3] + "] close] 1 close");
        }
        // of the last pair, too
        refused(c, 6, 39, "when [case choice x ada [1 2 1 2 1 2 2 1] close] 1 close");
        taken(c, 4, "when [case choice x ada [9 9 5 6 1 2 -2 -1] close] 1 close");
    }

    // ---- a TEXT of a contract is one contract and nothing else

    static void part2TextIsOneContractAndNothingElse() {
        Check c = new Check();
        for (String blank : new String[] {"", " ", "\n\n", "\u0000"}) {
            taken(c, 1, blank + "close" + blank);
            refused(c, 3, 2 * blank.length(), blank + blank);
            refused(c, 9, 6 + 2 * blank.length(), blank + "close " + blank + "close");
        }
        refused(c, 9, 5, "close)");
        refused(c, 9, 6, "close 1");
        refused(c, 9, 15, "when [] 1 close]");
    }

    // ---- those in ( ) are one with what they have

    static void part2BracketsAreNoNodes() {
        Check c = new Check();
        taken(c, 1, "(close)");
        taken(c, 1, "(".repeat(2000) + "close" + ")".repeat(2000));
        taken(c, 3, "(let x ((1)) ((close)))");
        taken(c, 4, "(assert (not ((true))) (close))");
        refused(c, 3, 4005 - 2000 - 1 + 2000, "(".repeat(2000) + "close" + ")".repeat(1999));
        refused(c, 9, 4005, "(".repeat(2000) + "close" + ")".repeat(2001));
        // they count nothing to how DEEP a node is
        taken(c, 102, "let x " + "neg (".repeat(99) + "1" + ")".repeat(99) + " close");
        refused(c, 7, 6 + 500, "let x " + "neg (".repeat(100) + "1" + ")".repeat(100) + " close");
    }

    // ---- 7 a node that would be DEEP 101

    static void part2ContractIsDeep100AtMost() {
        Check c = new Check();
        for (int deep = 99; deep <= 101; deep++) {
            for (String one : new String[] {"assert true ", "let x 1 ", "pay a to b c 1 ", "when [] 1 "}) {
                String text = one.repeat(deep) + "close";
                int nodes = 1 + deep * (one.startsWith("when") ? 1 : 2);
                if (deep == 101) refused(c, 7, text.length() - 5 - (one.startsWith("when") ? 0 : restOf(one)), text);
                else taken(new Check(), nodes, text);
            }
        }
    }

    /** Of a contract that is DEEP 100 its value or observation is the first that is too deep. */
    static int restOf(String one) {
        return one.startsWith("assert") ? 5 : 2;
    }

    static void part2ValueIsDeep100AtMost() {
        for (int deep = 99; deep <= 101; deep++) {
            String text = "let x " + "neg ".repeat(deep - 1) + "1 close";
            if (deep == 101) refused(new Check(), 7, 6 + 400, text);
            else taken(new Check(), deep + 2, text);
        }
        // the second value of an add, the third part of a cond
        taken(new Check(), 103, "let x " + "neg ".repeat(98) + "add 1 2 close");
        refused(new Check(), 7, 6 + 396 + 4, "let x " + "neg ".repeat(99) + "add 1 2 close");
        refused(new Check(), 7, 6 + 396 + 5, "let x " + "neg ".repeat(99) + "cond true 1 2 close");
    }

    static void part2ObservationIsDeep100AtMost() {
        for (int deep = 99; deep <= 101; deep++) {
            String text = "assert " + "not ".repeat(deep - 1) + "true close";
            if (deep == 101) refused(new Check(), 7, 7 + 400, text);
            else taken(new Check(), deep + 2, text);
        }
        refused(new Check(), 7, 7 + 396 + 3, "assert " + "not ".repeat(99) + "eq 1 1 close");
    }

    static void part2CaseIsDeep100AtMost() {
        // the when is DEEP 98, 99, 100: its case DEEP 99, 100, 101, what stands in the case one more
        taken(new Check(), 98 * 2 + 4, "assert true ".repeat(98) + "when [case choice x y [1 1] close] 1 close");
        String at99 = "assert true ".repeat(99);
        refused(new Check(), 7, at99.length() + 28, at99 + "when [case choice x y [1 1] close] 1 close");
        refused(new Check(), 7, at99.length() + 18, at99 + "when [case notify true close] 1 close");
        taken(new Check(), 99 * 2 + 2, at99 + "when [] 1 close");
        String at100 = "assert true ".repeat(99) + "when [] 1 ";
        refused(new Check(), 7, at100.length() + 6, at100 + "when [case choice x y [1 1] close] 1 close");
        refused(new Check(), 7, at100.length() + 10, at100 + "when [] 1 close");
    }

    // ---- 7 the 1001st of its text

    static void part2TextHas1000NodesAtMost() {
        Check c = new Check();
        taken(c, 999, ContractsTest.ofNodes(999));
        taken(c, 1000, ContractsTest.ofNodes(1000));
        String text = ContractsTest.ofNodes(1001);
        refused(c, 7, text.length() - 5, text);
        // the 1001st as a value, an observation, a case
        String most = ContractsTest.ofNodes(999).replaceFirst("close$", "");
        taken(c, 1000, most + "when [] 1 close");
        refused(c, 7, most.length() + 10, most + "let x (1) close");
    }

    static void part2Node1001IsAnyNode() {
        String most = ContractsTest.ofNodes(1000).replaceFirst("close$", "");
        for (String[] row : new String[][] {{"let x 1 close", "6"}, {"assert true close", "7"}, {"when [case", "6"}, {"when [] 1 ((close))", "12"}, {"pay a to b c ?p close", "13"}}) {
            refused(new Check(), 7, most.length() + Integer.parseInt(row[1]), most + row[0]);
        }
        // a token that can't stand there is fault 4 before it is one too many
        refused(new Check(), 4, most.length() + 6, most + "let x true close");
        refused(new Check(), 4, most.length() + 6, most + "when [close");
    }

    // ---- the place is that of the token's first byte, from 0 on; at the end how many bytes the text has

    static void part2PlaceOfAFault() {
        Check c = new Check();
        refused(c, 1, 0, "!");
        refused(c, 1, 1, " !");
        refused(c, 1, 6, "close !abc");
        refused(c, 3, 0, "");
        refused(c, 3, 1, " ");
        refused(c, 3, 3, "let");
        refused(c, 3, 4, "let ");
        refused(c, 3, 5, "let x");
        refused(c, 3, 20, "let" + " ".repeat(17));
        // bytes that were cut off the tape are none of the text
        c.text("let x 1 close").is(7, "trim", 7).is(-1, "keep", 0).is(3, "fault", false).is(7, "fault", true);
        c.text("close!").is(5, "trim", 5).is(1, "keep", 0);
    }

    // ---- of one token the faults in this order

    static void part2OrderOfFaultsOfOneToken() {
        String large = "1" + "0".repeat(300);
        Check c = new Check();
        refused(c, 1, 0, "1a");
        // 2 before 4, 5, 6, 8, 9
        refused(c, 2, 0, large);
        refused(c, 2, 8, "when [] " + large + " close");
        refused(c, 2, 27, "when [case choice x ada [1 -" + large + "] close] 1 close");
        refused(c, 2, 41, "when [case choice x ada [1 2 1 2 1 2 1 2 " + large);
        refused(c, 2, 6, "close " + large);
        // 1 before 4 and 9
        refused(c, 1, 4, "let ! 1 close");
        refused(c, 1, 6, "close !");
        // 4 before 7 and 8, 7 before 8
        String deep = "assert true ".repeat(99) + "when [] 1 ";
        refused(c, 4, deep.length() + 6, deep + "when [notify");
        refused(c, 4, 41, "when [case choice x ada [1 2 1 2 1 2 1 2 ?x");
        String eight = ContractsTest.ofNodes(975).replaceFirst("close$", "") + "when [" + CASE.repeat(8);
        refused(c, 8, eight.length(), eight + "case");
        eight = ContractsTest.ofNodes(976).replaceFirst("close$", "") + "when [" + CASE.repeat(8);
        refused(c, 7, eight.length(), eight + "case");
    }

    static void part2FirstFaultThatIsMet() {
        Check c = new Check();
        refused(c, 5, 8, "when [] -1 !");
        refused(c, 6, 27, "when [case choice x ada [2 1 !");
        refused(c, 4, 4, "let 1 !");
        refused(c, 1, 4, "let ! close 1");
        refused(c, 9, 6, "close close !");
        refused(c, 8, 6 + 8 * CASE.length(), "when [" + CASE.repeat(9) + "!");
    }

    static void part2TextWithAFaultLeavesNothing() {
        String[] texts = {"when [ ] ?t when [ ] 9 close", "when [ ] 9 when [ ] ?t close", "when [ case choice c ada [ 1 2 3 4 ] close ] 9 close", "when [ case deposit ada bob gold 5 close ] 9 close",
            "pay ada into bob gold 7 close", "pay ada to bob gold 77 close", "let x neg add 12345678901234567890 ?p close", "if true close when [ ] 0 close", "assert eq held a b chosen c d close",
            "when [ case notify true close case notify false close ] 1 close", "when [ case choice c ada [ 5 5 ] when [ ] 3 close ] 9 close"};
        for (String bad : texts) {
            for (String good : texts) {
                Check fresh = new Check().keep(0, good);
                Check c = new Check().text(bad + " !").is(-1, "keep", 0).keep(0, good).writes(good, "print", 0);
                for (int what = 0; what < 5; what++) c.is(fresh.ask("about", 0, what), "about", 0, what);
                c.is(fresh.ask("told", 5), "told", 5);
            }
        }
    }

    // ---- 4 a token that can't stand there

    static final String[] TOKENS = ("close pay to into if when case deposit choice notify let assert held neg add sub mul div chosen start end use cond "
            + "and or not chose ge gt le lt eq true false 5 ?p n ( ) [ ]").split(" ");
    static final String CONTRACT = " close pay if when let assert ( ";
    static final String VALUE = " 5 ?p held neg add sub mul div chosen start end use cond ( ";
    static final String OBSERVATION = " and or not chose ge gt le lt eq true false ( ";

    /** Behind each of these texts just these tokens can stand. */
    static void only(String tokens, String... texts) {
        Check c = new Check();
        for (String text : texts) {
            for (String token : TOKENS) {
                String whole = text + token;
                if (!tokens.contains(" " + token + " ")) {
                    c.faulty(0, 4, text.length(), whole);
                } else if (c.text(whole).number("keep", 0) < 0) {
                    c.is(3, "fault", false).is(whole.length(), "fault", true);
                } else {
                    c.is(0, "drop", 0);
                }
            }
        }
    }

    static void part2TokensWhereAContractMustStand() {
        only(CONTRACT, "", "(", "((", "let x 1 ", "let x 1 (", "if true ", "if true close ", "when [] 1 ", "when [case notify true ", "when [case notify true (", "assert true ",
                "pay a to b c 1 ", "pay a into b c 1 ", "when [case choice a b [1 1] ", "when [case deposit a b c 1 ", "when [case notify true close] ?p ");
    }

    static void part2TokensWhereAValueMustStand() {
        only(VALUE, "let x ", "let x (", "let x neg ", "let x add ", "let x add 1 ", "let x sub ", "let x sub 1 ", "let x mul ", "let x mul 1 ", "let x div ", "let x div 1 ", "let x cond true ",
                "let x cond true 1 ", "pay a to b c ", "pay a into b c ", "when [case deposit a b c ", "assert eq ", "assert eq 1 ", "assert ge ", "assert ge 1 ", "assert gt ", "assert gt 1 ",
                "assert le ", "assert le 1 ", "assert lt ", "assert lt 1 ");
    }

    static void part2TokensWhereAnObservationMustStand() {
        only(OBSERVATION, "assert ", "assert (", "assert not ", "assert and ", "assert and true ", "assert or ", "assert or true ", "if ", "if (", "let x cond ", "when [case notify ", "when [case notify (");
    }

    static void part2TokensWhereANameMustStand() {
        only(" n ", "let ", "pay ", "pay a to ", "pay a into ", "pay a to b ", "when [case deposit ", "when [case deposit a ", "when [case deposit a b ", "when [case choice ", "when [case choice a ",
                "let x held ", "let x held a ", "let x chosen ", "let x chosen a ", "assert chose ", "assert chose a ", "let x use ");
    }

    static void part2TokensElsewhere() {
        only(" to into ", "pay a ");
        only(" [ ", "when ", "when [case choice a b ");
        only(" case ] ", "when [", "when [case notify true close ", "when [case deposit a b c 1 close ", "when [case choice a b [1 1] close ");
        only(" deposit choice notify ", "when [case ", "when [case notify true close case ");
        only(" 5 ?p ", "when [] ", "when [case notify true close] ");
        only(" 5 ", "when [case choice a b [", "when [case choice a b [1 ", "when [case choice a b [1 1 1 ");
        only(" 5 ] ", "when [case choice a b [1 1 ", "when [case choice a b [1 1 1 1 1 1 ");
        only(" ) ", "(close ", "((close) ", "let x (1 ", "assert (true ", "let x (neg 1 ", "(let x 1 close ", "when [case notify true (close ");
    }

    static void part2TokensBehindTheWhole() {
        Check c = new Check();
        for (String text : new String[] {"close ", "(close) ", "let x 1 close ", "when [] 1 close "}) {
            for (String token : TOKENS) c.faulty(0, 9, text.length(), text + token);
        }
    }

    // ---- CONTRACTS 0 .. 15 are kept, or not (at first none is)

    static void part2ContractsAre0To15() {
        Check c = new Check();
        for (int k = 0; k < 16; k++) c.is(Check.STATE, "print", k).text("close").is(1, "keep", k).is(k + 1, "told", 0).is(5, "print", k);
        c.refusesText(Check.INDEX, "close", "keep", 16).refusesText(Check.INDEX, "close", "keep", -1).refusesText(Check.STATE, "close", "keep", 15);
        c.refuses(Check.INDEX, "drop", 16).refuses(Check.INDEX, "drop", -1).refuses(Check.INDEX, "print", 16).refuses(Check.INDEX, "print", -1);
        for (int k = 15; k >= 0; k--) c.is(0, "drop", k).is(k, "told", 0);
    }

    // ---- all contracts that were ever kept have together 4000 nodes at most

    /** A contract of so many nodes, 3 at least, by few bytes: all that was ever kept must go on the disk. */
    static String small(int nodes) {
        int leaves = (nodes - 1) / 2;
        return "let x " + (nodes % 2 == 0 ? "neg " : "") + sum(leaves) + " close";
    }

    static String sum(int leaves) {
        return leaves == 1 ? "1" : "add " + sum(leaves / 2) + " " + sum(leaves - leaves / 2);
    }

    static void part2AllContractsHave4000NodesAtMost() {
        Check c = new Check();
        for (int k = 0; k < 3; k++) c.text(small(1000)).is(1000, "keep", k);
        c.text(small(998)).is(998, "keep", 3).is(3998, "told", 5);
        c.refusesText(-9, "let x 1 close", "keep", 4).refusesText(-9, small(1000), "keep", 4);
        c.text("when [] 1 close").is(2, "keep", 4).is(4000, "told", 5).refusesText(-9, "close", "keep", 5);
        // what is dropped counts on, what recover() kept as well
        c.is(0, "drop", 0).is(0, "drop", 4).refusesText(-9, "close", "keep", 0).is(7, "recover").is(4000, "told", 5).refusesText(-9, "close", "keep", 0);
        // a fault is looked at first
        c.refusesText(-1, "close !", "keep", 0).is(1, "fault", false);
    }

    static void part2NodesAreThoseSinceTheLatestRecover() {
        Check c = new Check();
        for (int k = 0; k < 4; k++) c.text(small(1000)).is(1000, "keep", k);
        c.refusesText(-9, "close", "keep", 4);
        // the last record is spoiled: recover() does three again
        int end = c.number("told", 3);
        c.is("void", "cut");
        c.ask("poke", end - 1, c.number("peek", end - 1) ^ 1);
        c.is(3, "recover").is(3000, "told", 5).text(small(999)).is(999, "keep", 4).text("close").is(1, "keep", 5);
        c.refusesText(-9, "close", "keep", 6);
    }
}
