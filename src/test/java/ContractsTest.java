/** Promises 7 to 11: keep, fault, drop, print, about. */
public final class ContractsTest {
    static final String NINES = "9".repeat(300);

    public static void main(String[] args) {
        keeping();
        faultsOfTokens();
        faultsOfPlaces();
        faultsOfTimesAndBounds();
        faultsOfSize();
        orderOfFaults();
        faultOfOtherTexts();
        manyNodes();
        manyFaultyTexts();
        brackets();
        dropping();
        printing();
        longPrint();
        about();
        Check.finish();
    }

    static void keeping() {
        Check c = new Check("promise 7");
        c.is(Check.INDEX, "keep", -1).is(Check.INDEX, "keep", 16).is(Check.INDEX, "keep", Integer.MAX_VALUE);
        c.text("close").is(1, "keep", 0).is(1, "told", 0).is(1, "told", 5).is(0, "told", 2);
        c.text("close").is(Check.STATE, "keep", 0).is(0, "told", 2);
        c.text("close").is(Check.INDEX, "keep", 16).is(0, "told", 2);
        c.text("let x add 1 (neg 2) close").is(6, "keep", 15);
        c.text("when [case deposit ada bob gold 1 close case choice x ada [1 2 3 4] close case notify true close] 5 close")
                .is(10, "keep", 1);
        c.text("if and true false close pay ada into bob gold cond chose x ada use x held ada gold close").is(11, "keep", 2);
        c.is(4, "told", 0).is(28, "told", 5);
        c.text("").is(-1, "keep", 3).text("cloze").is(-1, "keep", 3).is(4, "told", 0).is(28, "told", 5);
    }

    static void faultsOfTokens() {
        Check c = new Check("faults 1, 2");
        for (String bad : new String[] {"Close", "-", "--1", "+1", "1a", "1-", "?", "?1", "??x", "?close", "abcdefghi", "?abcdefghi",
            "a_b", "aB", "\u0080", "\u00ff", "a.b", "{", "-a", "1.5", "\u007f", "x\u00e9"}) {
            c.fault(1, 6, "let x " + bad + " close").fault(1, 1, " " + bad);
        }
        c.fault(1, 4, "let 1a 1 close").fault(1, 0, "closeclose").fault(1, 6, "close !");
        c.fault(2, 6, "let x 1" + NINES + " close").fault(2, 7, "let x\t -1" + NINES + " close").fault(2, 0, "00001" + NINES);
        c.fault(2, 6, "close 1" + NINES);
        c.text("let x 0000" + NINES + " close").is(3, "keep", 0).is(0, "fault", false).is(-1, "fault", true);
        c.text("let x -000" + NINES + " close").is(3, "keep", 1);
        c.text("let x " + "0".repeat(600) + " close").is(3, "keep", 2).writes("let x 0 close", "print", 2);
        c.text("let abcdefg8 ?abcdefg8 close").is(3, "keep", 3);
    }

    static void faultsOfPlaces() {
        Check c = new Check("faults 3, 4, 9");
        c.fault(3, 0, "").fault(3, 3, "   ").fault(3, 5, "let x").fault(3, 7, "let x  ").fault(3, 1, "(").fault(3, 6, "(close");
        c.fault(3, 8, "(close\u0000 ").fault(3, 6, "when [").fault(3, 7, "when []").fault(3, 10, "when [ ] 5");
        c.fault(4, 0, "ada").fault(4, 0, "1").fault(4, 0, "?x").fault(4, 0, ")").fault(4, 0, "[").fault(4, 0, "add").fault(4, 0, "true");
        c.fault(4, 4, "let 1 1 close").fault(4, 4, "let ?x 1 close").fault(4, 4, "let let 1 close").fault(4, 4, "let (x) 1 close");
        c.fault(4, 6, "let x true close").fault(4, 6, "let x close").fault(4, 3, "if 1 close close").fault(4, 3, "if x close close");
        c.fault(4, 8, "pay ada bob").fault(4, 8, "pay ada (").fault(4, 11, "pay ada to to").fault(4, 15, "pay ada to bob 1 2 close");
        c.fault(4, 5, "when case").fault(4, 6, "when [close").fault(4, 6, "when [(case").fault(4, 11, "when [case close");
        c.fault(4, 11, "when [case (notify").fault(4, 19, "when [case deposit 1").fault(4, 8, "when [] close").fault(4, 8, "when [] ada");
        c.fault(4, 8, "when [] (5) close").fault(4, 8, "when [] start close");
        c.fault(4, 7, "let x 1)").fault(4, 7, "let x (close").fault(4, 9, "let x (1 close").fault(4, 6, "let x ) 1");
        c.fault(4, 25, "when [case choice x ada [] close] 1 close").fault(4, 25, "when [case choice x ada [a");
        c.fault(4, 27, "when [case choice x ada [1 ] close").fault(4, 24, "when [case choice x ada 1 2 close");
        c.fault(4, 25, "when [case choice x ada [?x 1] close").fault(4, 30, "when [case choice x ada [1 2] 1");
        c.fault(9, 6, "close close").fault(9, 6, "close ada").fault(9, 5, "close)").fault(9, 6, "close 1").fault(9, 7, "(close))").fault(9, 5, "close]");
    }

    static void faultsOfTimesAndBounds() {
        Check c = new Check("faults 5, 6");
        c.fault(5, 8, "when [] -1 close").fault(5, 8, "when [] 1000000000000001 close").fault(5, 8, "when [] " + NINES + " close");
        c.fault(5, 8, "when [] 1000000000000000000000000000 close").fault(5, 8, "when [] 18446744073709551617 close");
        c.text("when [] 1000000000000000 when [] -0 when [] 00000000000000000000000007 when [] ?t close").is(5, "keep", 0);
        c.writes("when [ ] 1000000000000000 when [ ] 0 when [ ] 7 when [ ] ?t close", "print", 0).is(0, "drop", 0);
        c.fault(6, 27, "when [case choice x ada [5 4] close] 1 close").fault(6, 31, "when [case choice x ada [5 5 0 -1] close] 1 close");
        c.fault(6, 28, "when [case choice x ada [-5 -6] close] 1 close");
        c.fault(6, 326, "when [case choice x ada [" + NINES + " " + NINES.substring(1) + "8] close] 1 close");
        c.text("when [case choice x ada [-5 -5 0 -0 7 8 " + NINES + " " + NINES + "] close] 1 close").is(4, "keep", 0);
    }

    static void faultsOfSize() {
        Check c = new Check("faults 7, 8");
        // values: the let is DEEP 0, its value DEEP 1; 99 neg stand above a NUMBER that is DEEP 100
        c.text("let x " + "neg ".repeat(99) + "1 close").is(102, "keep", 0).is(0, "drop", 0);
        c.fault(7, 6 + 400, "let x " + "neg ".repeat(100) + "1 close");
        c.fault(7, 6 + 400 + 3, "let x " + "neg ".repeat(100) + "(((1))) close");
        c.fault(4, 6 + 400, "let x " + "neg ".repeat(100) + "true close");
        c.text("assert true ".repeat(100) + "close").is(201, "keep", 0).is(0, "drop", 0);
        c.fault(7, 1207, "assert true ".repeat(101) + "close");
        // 50 whens with a case each: the contract in the last one is DEEP 100
        String head = "when [case notify true ";
        c.text(head.repeat(50) + "close" + "] 5 close".repeat(50)).is(201, "keep", 0).is(0, "drop", 0);
        c.fault(7, 50 * head.length() + 7, head.repeat(50) + "assert true close");
        c.fault(7, 50 * head.length() + 6, head.repeat(50) + head + "close");
        for (int nodes : new int[] {999, 1000}) c.text(ofNodes(nodes)).is(nodes, "keep", 0).is(0, "drop", 0);
        c.fault(7, ofNodes(1001).length() - 5, ofNodes(1001));
        c.fault(7, ofNodes(999).length() + 3, ofNodes(999).replaceFirst("close$", "let x 1 close"));
        cases(c);
        c.fault(8, 41, "when [case choice x ada [1 1 2 2 3 3 4 4 5 5] close] 1 close");
        c.fault(4, 41, "when [case choice x ada [1 1 2 2 3 3 4 4 x 5] close] 1 close");
        c.fault(2, 41, "when [case choice x ada [1 1 2 2 3 3 4 4 1" + NINES + " 5] close] 1 close");
    }

    static String fullTree(int levels) {
        return levels == 0 ? "true" : "and " + fullTree(levels - 1) + " " + fullTree(levels - 1);
    }

    /** A text of so many nodes, 3 at least, that is not deep. */
    static String ofNodes(int nodes) {
        StringBuilder b = new StringBuilder();
        int left = nodes - 1;
        for (int levels = 8; levels >= 0; levels--) {
            for (int size = 2 << levels; left >= size; left -= size) {
                b.append("assert ").append(fullTree(levels)).append(' ');
            }
        }
        String text = b + "close";
        return left == 0 ? text : text.replaceFirst("true", "not true");
    }

    static void cases(Check c) {
        String one = "case notify true close ";
        c.ask("drop", 0);
        c.text("when [" + one.repeat(8) + "] 1 close").is(26, "keep", 0).is(0, "drop", 0);
        c.fault(8, 6 + 8 * one.length(), "when [" + one.repeat(9) + "] 1 close");
        c.fault(4, 6 + 8 * one.length(), "when [" + one.repeat(8) + "notify] 1 close");
        // a ninth case in a when that stands DEEP 100 is too deep before it is one too many
        c.fault(7, 1206, "assert true ".repeat(100) + "when [" + one.repeat(9) + "] 1 close");
        c.fault(8, 1182 + 8 * one.length(), "assert true ".repeat(98) + "when [" + one.repeat(9) + "] 1 close");
    }

    static void orderOfFaults() {
        Check c = new Check("the first fault that is met");
        c.fault(4, 0, "ada !").fault(1, 0, "! ada").fault(5, 8, "when [] -1 !").fault(3, 6, "let x ").fault(1, 6, "let x ! 1" + NINES);
        c.fault(4, 0, "] 1" + NINES);
    }

    static void faultOfOtherTexts() {
        Check c = new Check("promise 8");
        c.keep(0, "close").is(0, "begin", 0, 0, 0L);
        c.text("1 x").is(-1, "mint", Check.n("ada"), Check.n("gold")).is(9, "fault", false).is(2, "fault", true);
        c.text("close").is(-1, "parameter", Check.n("fee")).is(4, "fault", false).is(0, "fault", true);
        c.text(" (1)").is(-1, "parameter", Check.n("fee")).is(4, "fault", false).is(1, "fault", true);
        c.text("").is(-1, "parameter", Check.n("fee")).is(3, "fault", false).is(0, "fault", true);
        c.text("notify 1").is(-1, "transact", 0, 0L, 0L).is(4, "fault", false).is(7, "fault", true);
        // calls that throw for what they name read no text
        c.text("!").is(Check.INDEX, "keep", 16).is(4, "fault", false).text("!").is(Check.STATE, "keep", 0).is(7, "fault", true);
        c.text("!").is(Check.ARGUMENT, "parameter", 0L).text("!").is(Check.ARGUMENT, "mint", Check.n("ada"), Check.n("to"));
        c.text("!").is(Check.STATE, "transact", 1, 0L, 0L).text("!").is(Check.INDEX, "transact", -1, 0L, 0L).is(4, "fault", false);
        c.is(0, "told", 2);
        // a text that is refused for something else has no fault
        c.text("0").is(-5, "mint", Check.n("ada"), Check.n("gold")).is(0, "fault", false).is(-1, "fault", true);
        c.text("!").is(-1, "keep", 1).is(1, "fault", false);
        c.is(2, "recover").is(-1, "fault", false).is(-1, "fault", true);
    }

    static void manyNodes() {
        Check c = new Check("4000 nodes");
        String text = "let x " + fullTree(6).replace("and", "add").replace("true", "1") + " close";
        // 129 nodes a time, kept and dropped: what was ever kept counts
        for (int i = 0; i < 31; i++) c.text(text).is(129, "keep", i % 16).is(0, "drop", i % 16);
        c.is(3999, "told", 5).is(0, "told", 0);
        c.text("assert true close").is(-9, "keep", 0).is(0, "fault", false).is(3999, "told", 5).text("close").is(1, "keep", 0);
        c.text("close").is(-9, "keep", 1).is(4000, "told", 5).writes("close", "print", 0);
        c.is(63, "recover").is(4000, "told", 5);
    }

    /** Numbers of texts that are not kept take no room from those that are. */
    static void manyFaultyTexts() {
        Check c = new Check("many faulty texts");
        String long20 = ("let x " + NINES + " ").repeat(20);
        for (int i = 0; i < 60; i++) c.fault(3, long20.length(), long20);
        c.keep(0, long20 + "close").writes(long20 + "close", "print", 0);
    }

    static void brackets() {
        Check c = new Check("( )");
        c.text("(".repeat(3000) + "close" + ")".repeat(3000)).is(1, "keep", 0).writes("close", "print", 0);
        c.text("(let x(((1)))(close))").is(3, "keep", 1).writes("let x 1 close", "print", 1);
        c.text("((let x (add(1)(2)) ( (if (true)(close)((close)) ) ) ))").is(8, "keep", 2);
        c.writes("let x add 1 2 if true close close", "print", 2);
        c.is(0, "drop", 0).fault(3, 9, "(((close)").fault(9, 9, "((close)))").fault(4, 8, "((close close)");
        c.fault(4, 8, "((close ]").fault(4, 10, "(let x (1 ( close");
        c.text("when[case deposit ada bob gold(1)(close)]9(close)").is(5, "keep", 0);
        c.writes("when [ case deposit ada bob gold 1 close ] 9 close", "print", 0);
    }

    static void dropping() {
        Check c = new Check("promise 9");
        c.is(Check.INDEX, "drop", -1).is(Check.INDEX, "drop", 16).is(Check.STATE, "drop", 0);
        c.keep(0, "when [] 9 let x 1 close").is(0, "begin", 3, 0, 0L).is(0, "drop", 0).is(Check.STATE, "drop", 0).is(0, "told", 0);
        c.is(Check.STATE, "print", 0).is(Check.STATE, "begin", 4, 0, 0L).keep(0, "close");
        // the instance goes on
        c.writes("when [ ] 9 let x 1 close", "rest", 3).transact(0, 3, 9, 9, "").is(1, "state", 3, 3).writes("close", "rest", 3);
    }

    static void printing() {
        Check c = new Check("promise 10");
        c.is(Check.INDEX, "print", -1).is(Check.INDEX, "print", 16).is(Check.STATE, "print", 15);
        String all = "let a neg add sub 1 -2 mul div 3 4 chosen x ada let b cond and or not chose x ada ge start end gt 1 2 "
                + "use a held ada gold assert le 1 2 assert lt 1 2 assert eq ?p 2 if true pay ada to bob gold 1 close if false pay ada into bob gold 2 "
                + "close when [ case deposit ada bob gold 5 close case choice x ada [ -1 0 5 5 ] close case notify true close ] ?t "
                + "when [ ] 12 close";
        c.keep(0, all).writes(all, "print", 0);
        c.keep(1, "\u0000let\tx\n -007 let y -0 ( close )\r").writes("let x -7 let y 0 close", "print", 1);
        c.keep(2, "let x " + NINES + " let y -" + NINES + " let z 1000000000 let w 1000000001000000000 close");
        c.writes("let x " + NINES + " let y -" + NINES + " let z 1000000000 let w 1000000001000000000 close", "print", 2);
    }

    /** Blanks that a text has no need of make its print longer than the out. */
    static void longPrint() {
        Check c = new Check("the out ends at 16384");
        String name = "let abcdefgh " + "9".repeat(140) + " ";
        c.text(name.repeat(100) + "close").is(201, "keep", 0).is(100 * name.length() + 5, "print", 0);
        StringBuilder b = new StringBuilder();
        for (int i = 0; i < 27; i++) b.append("let x " + NINES + " ");
        c.text(b + "close").is(-10, "keep", 1);
        String bounds = "[-1 1 2 3 4 5 6 7]";
        c.text("when[case choice x ada" + bounds + "close]1 close").is(4, "keep", 2);
        c.writes("when [ case choice x ada [ -1 1 2 3 4 5 6 7 ] close ] 1 close", "print", 2);
    }

    static void about() {
        Check c = new Check("promise 11");
        c.is(Check.INDEX, "about", 16, 9).is(Check.INDEX, "about", -1, 0).is(Check.ARGUMENT, "about", 0, 5).is(Check.ARGUMENT, "about", 0, -1);
        c.is(Check.STATE, "about", 0, 0).keep(0, "close");
        c.is(-1, "about", 0, 0).is(1, "about", 0, 1).is(0, "about", 0, 2).is(0, "about", 0, 3).is(0, "about", 0, 4);
        c.keep(1, "when [case deposit ada bob gold ?a when [] 7 when [] ?t close case deposit ada eve gold ?b pay ada into bob gold ?a "
                + "pay bob to eve oil ?t pay eve into ada gold 1 close case notify true when [] 3 close] 5 when [] 6 close");
        c.is(7, "about", 1, 0).is(21, "about", 1, 1).is(3, "about", 1, 2).is(3, "about", 1, 3).is(2, "about", 1, 4);
        c.keep(2, "when [] ?t when [] 0 close").is(0, "about", 2, 0).is(2, "about", 2, 3).is(1, "about", 2, 2);
        c.keep(3, "when [] ?t close").is(-1, "about", 3, 0).is(Check.ARGUMENT, "about", 3, 5);
        c.keep(4, "if true when [] 1 close when [] 1000000000000000 close").is(1000000000000000L, "about", 4, 0).is(1, "about", 4, 3);
    }
}
