import java.util.ArrayList;
import java.util.List;

/** Terms, part 1: bytes, tokens, numbers. */
final class Part1Boundaries {
    static final String NINES = "9".repeat(300);
    static final long ADA = Check.n("ada");
    static final long GOLD = Check.n("gold");
    static final String[] KEYWORDS = ("close pay to into if when case deposit choice notify let assert held neg add sub mul div chosen "
            + "start end use cond and or not chose ge gt le lt eq true false").split(" ");

    // ---- THE TAPE has bytes, 16384 at most, at first none

    static void part1TapeIsEmptyAtFirst() {
        new Check().is(0, "told", 2).is(0, "show").is(0, "trim", 5).is(-1, "keep", 0).is(3, "fault", false).is(0, "fault", true);
    }

    static void part1TapeHas16384BytesAtMost() {
        Check c = new Check().text("x".repeat(16360));
        c.is(16380, "feed", 1, 2, 3, 4, 5).refuses(Check.ARGUMENT, "feed", 0, 0, 0, 0, 0);
        // 16365 and 20 are one too many, 16364 and 20 are not
        c.is(16365, "trim", 16365).refuses(Check.ARGUMENT, "feed", 0, 0, 0, 0, 0);
        c.is(16364, "trim", 16364).is(16384, "feed", 0x61626364, 0, 0, 0, 0x65666768).refuses(Check.ARGUMENT, "feed", 0, 0, 0, 0, 0);
        c.is(16384, "show").is(0x0000000065666768L, "word", 2047).is(16363, "trim", 16363).is(16383, "feed", 0, 0, 0, 0, 0x61);
        c.is(16383, "show").is(0x0000000000006100L, "word", 2047).refuses(Check.ARGUMENT, "feed", 0, 0, 0, 0, 0);
    }

    static void part1TextCallsUseTheTapeUpWhateverComesOfIt() {
        Check c = new Check().keep(0, "when [] 9 close").is(0, "begin", 0, 0, 0L).set("fee", 1);
        String[] calls = {"keep", "keep", "keep", "transact", "transact", "transact", "mint", "mint", "mint", "parameter", "parameter"};
        Object[][] args = {{1}, {0}, {16}, {0, 0L, 0L}, {1, 0L, 0L}, {16, 0L, 0L}, {ADA, GOLD}, {ADA, 0L}, {0L, GOLD}, {GOLD}, {0L}};
        for (int i = 0; i < calls.length; i++) {
            // done or refused, with a fault, or thrown for what it names
            for (String text : new String[] {"close", "1", "notify", "!", " "}) {
                c.text(text);
                c.ask(calls[i], args[i]);
                c.is(0, "told", 2);
            }
        }
    }

    static void part1OtherCallsLeaveTheTape() {
        Check c = new Check().keep(0, "when [] 9 close").mint("ada", "gold", 5).text("abc");
        c.is(0, "begin", 0, 0, 0L).is(3, "told", 2).is(3, "show").is(3, "told", 2).is(0, "forget").is(3, "told", 2);
        c.ask("print", 0);
        c.ask("look", 0, true, 31, 9);
        c.ask("wallet", ADA, GOLD);
        c.is(0, "drop", 0).is(3, "told", 2).writes("abc", "show");
    }

    // ---- THE OUT has bytes, 16384 at most; all that would come behind the 16384th is left out

    /** The print of a contract that is longer than its text, for [ and ] need no blanks there. */
    static String printOf(int bytes) {
        String lets = "let abcdefgh " + NINES + " ";
        String whens = "when [ case choice x ada [ 1 1 2 2 ] close case choice x bob [ 1 1 ] close case choice y bob [ 1 1 ] close ] 9 ".repeat(5);
        String text = lets.repeat(50) + "let y D " + whens + "close";
        return text.replace("D", "7".repeat(bytes - text.length() + 1));
    }

    static String tight(String print) {
        return print.replace(" [ ", "[").replace(" ] ", "]");
    }

    static void part1OutHas16384BytesAtMostByPrint() {
        for (int bytes = 16383; bytes <= 16386; bytes++) {
            String print = printOf(bytes);
            Check c = new Check().keep(0, tight(print)).writes(print.substring(0, Math.min(bytes, 16384)), "print", 0);
            c.is(Math.min(bytes, 16384), "size");
        }
    }

    static void part1OutHas16384BytesAtMostByRest() {
        for (int bytes = 16383; bytes <= 16385; bytes++) {
            String print = printOf(bytes);
            Check c = new Check().keep(0, tight(print)).is(0, "begin", 0, 0, 0L);
            c.writes(print.substring(0, Math.min(bytes, 16384)), "rest", 0);
        }
    }

    static void part1OutHas16384BytesAtMostByShow() {
        Check c = new Check().text("x".repeat(16364)).is(16384, "feed", 0, 0, 0, 0, 0x61626364).is(16384, "show").is(16384, "size");
        c.is(0x61626364L, "word", 2047).is(0, "word", 2048).is(16383, "trim", 16383).is(16383, "show").is(0x61626300L, "word", 2047);
    }

    static void part1OutIsReplaced() {
        Check c = new Check().text("abcdefghijklmnop").writes("abcdefghijklmnop", "show").writes("0", "wallet", ADA, GOLD);
        c.is(0, "word", 1).writes("abcdefghijklmnop", "show").is(0, "trim", 0).writes("", "show").is(0, "word", 0);
    }

    // ---- BLANKS, bytes up to 32, part tokens; ( ) [ ] are tokens by themselves; others are the longest rows

    static void part1EveryByteBehindAToken() {
        Check c = new Check();
        for (int b = 0; b < 256; b++) {
            String text = "close" + (char) b;
            if (b <= 32) c.text(text).is(1, "keep", 0).is(0, "drop", 0);
            else if ("()[]".indexOf(b) >= 0) c.fault(9, 5, text);
            else if (b >= 'a' && b <= 'z' || b >= '0' && b <= '9') c.fault(4, 0, text);
            else c.fault(1, 0, text);
        }
    }

    static void part1EveryByteAsAToken() {
        Check c = new Check();
        for (int b = 0; b < 256; b++) {
            String text = "close" + " " + (char) b;
            if (b <= 32) c.text(text).is(1, "keep", 0).is(0, "drop", 0);
            else if ("()[]".indexOf(b) >= 0 || b >= 'a' && b <= 'z' || b >= '0' && b <= '9') c.fault(9, 6, text);
            else c.fault(1, 6, text);
        }
    }

    static void part1EveryByteBetweenTokens() {
        Check c = new Check();
        for (int b = 0; b < 256; b++) {
            String text = "let x" + (char) b + "7 close";
            boolean isPart = b >= 'a' && b <= 'z' || b >= '0' && b <= '9';
            if (b <= 32) c.text(text).is(3, "keep", 0).is(0, "drop", 0);
            else if (b == '(') c.fault(4, 8, text);
            else if ("[])".indexOf(b) >= 0) c.fault(4, 5, text);
            else if (isPart) c.fault(4, 8, text);
            else c.fault(1, 4, text);
        }
    }

    // ---- a NUMBER: - or nothing, then digits, one at least; at most 300 without needless zeros

    static void part1NumberHasOneDigitAtLeast() {
        Check c = new Check().fault(1, 6, "let x - close").fault(1, 6, "let x -").fault(1, 6, "let x --1 close").fault(1, 6, "let x -a close");
        c.fault(1, 6, "let x +1 close").fault(1, 6, "let x 1- close").fault(1, 6, "let x 1a close").fault(1, 6, "let x 1/ close").fault(1, 6, "let x 1: close");
        c.text("let x -1 close").is(3, "keep", 0).text("let x 0 close").is(3, "keep", 1).text("let x 9 close").is(3, "keep", 2);
        c.writes("let x -1 close", "print", 0).writes("let x 0 close", "print", 1).writes("let x 9 close", "print", 2);
    }

    static void part1NumberHas300DigitsAtMost() {
        for (String minus : new String[] {"", "-"}) {
            for (String zeros : new String[] {"", "0", "0".repeat(301)}) {
                Check c = new Check();
                for (int digits = 299; digits <= 301; digits++) {
                    String text = "let x " + minus + zeros + "1".repeat(digits) + " close";
                    if (digits > 300) c.fault(2, 6, text).text(text).refuses(-1, "keep", 0);
                    else c.text(text).is(3, "keep", 0).writes("let x " + minus + "1".repeat(digits) + " close", "print", 0).is(0, "drop", 0);
                }
            }
        }
    }

    static void part1NumberHas300DigitsAtMostInOtherTexts() {
        Check c = new Check().keep(0, "when [case choice x ada [0 " + NINES + "] close] 9 close").is(0, "begin", 0, 0, 0L);
        String large = "1" + "0".repeat(300);
        c.text(large).refuses(-1, "mint", ADA, GOLD).is(2, "fault", false).is(0, "fault", true).text(NINES).is(0, "mint", ADA, GOLD);
        c.text(" -" + large).refuses(-1, "parameter", ADA).is(2, "fault", false).is(1, "fault", true).text("-" + NINES).is(1, "parameter", ADA);
        c.text("choice x ada " + large).refuses(-1, "transact", 0, 0L, 0L).is(2, "fault", false).is(13, "fault", true);
        c.transact(0, 0, 0, 0, "choice x ada 00" + NINES).writes(NINES, "entry", 0, 2, 0);
        // as bounds, and as a time that is no NUMBER before it is no time
        c.faulty(15, 2, 27, "when [case choice x ada [0 " + large + "] close] 9 close").faulty(15, 2, 8, "when [] " + large + " close");
        c.faulty(15, 5, 8, "when [] " + NINES + " close");
    }

    static void part1NeedlessZerosMayStandAndMinus0Is0() {
        Check c = new Check().keep(0, "let a 00 let b -0 let c -000 let d 0010 let e -0010 when [] 0009 close");
        c.writes("let a 0 let b 0 let c 0 let d 10 let e -10 when [ ] 9 close", "print", 0);
        c.text("-0").is(1, "parameter", ADA).keep(1, "when [] ?ada close").is(0, "begin", 0, 1, 0L).writes("0", "entry", 0, 4, 0);
        c.refusesText(-5, "-00", "mint", ADA, GOLD).text("let x " + "0".repeat(400) + "5 close").is(3, "keep", 2).writes("let x 5 close", "print", 2);
    }

    // ---- a KEYWORD is no NAME; a NAME: a small letter, then small letters and digits, at most 8 of both

    static void part1KeywordsAreNoNames() {
        for (String word : KEYWORDS) {
            Check c = new Check().fault(4, 4, "let " + word + " 1 close").fault(1, 6, "let x ?" + word + " close");
            c.refusesText(Check.ARGUMENT, "1", "parameter", Check.n(word)).refusesText(Check.ARGUMENT, "1", "mint", Check.n(word), GOLD);
            c.refusesText(Check.ARGUMENT, "1", "mint", ADA, Check.n(word)).refuses(Check.ARGUMENT, "wallet", Check.n(word), GOLD);
            c.refuses(Check.ARGUMENT, "wallet", ADA, Check.n(word)).refuses(Check.ARGUMENT, "total", Check.n(word), 0);
            // one byte more or less makes it a NAME
            c.text("let " + word + "0 1 close").is(3, "keep", 0).text("1").is(1, "parameter", Check.n(word + "z"));
            String less = word.substring(0, word.length() - 1);
            if (!List.of(KEYWORDS).contains(less)) c.text("let " + less + " ?x" + word.charAt(0) + " close").is(3, "keep", 1);
        }
    }

    static void part1NameHas8BytesAtMost() {
        Check c = new Check().text("let abcdefg 1 close").is(3, "keep", 0).text("let abcdefgh 1 close").is(3, "keep", 1).text("let a2345678 1 close").is(3, "keep", 2);
        c.refusesText(-1, "let abcdefghi 1 close", "keep", 3).is(1, "fault", false).is(4, "fault", true);
        c.refusesText(-1, "let a23456789 1 close", "keep", 3).is(1, "fault", false).is(4, "fault", true).text("let a 1 close").is(3, "keep", 3);
        c.text("1").is(1, "parameter", Check.n("abcdefgh")).text("1").is(2, "parameter", Check.n("abcdefg")).text("1").is(3, "parameter", Check.n("a"));
        c.writes("let abcdefgh 1 close", "print", 1);
    }

    static void part1NameBeginsWithASmallLetter() {
        Check c = new Check();
        for (int b = 33; b < 256; b++) {
            if ("()[]".indexOf(b) >= 0) continue;
            String name = (char) b + "a";
            boolean isName = b >= 'a' && b <= 'z';
            if (isName) c.text("let " + name + " 1 close").is(3, "keep", 0).is(0, "drop", 0);
            else if (b == '?') c.fault(4, 4, "let " + name + " 1 close");
            else c.fault(1, 4, "let " + name + " 1 close");
            c.is(isName ? "1" : Check.ARGUMENT, "wallet", Check.n(name), GOLD);
        }
    }

    static void part1NameGoesOnWithSmallLettersAndDigits() {
        Check c = new Check();
        for (int b = 1; b < 256; b++) {
            String name = "q" + (char) b + "z";
            boolean isName = b >= 'a' && b <= 'z' || b >= '0' && b <= '9';
            if (isName) c.text("let " + name + " 1 close").is(3, "keep", 0).is(0, "drop", 0);
            else if (b > 32 && "()[]".indexOf(b) < 0) c.fault(1, 4, "let " + name + " 1 close");
            c.is(isName ? "1" : Check.ARGUMENT, "wallet", Check.n(name), GOLD).is(isName ? "1" : Check.ARGUMENT, "wallet", GOLD, Check.n("q" + (char) b));
        }
    }

    static void part1ParameterIsAQuestionMarkAndAName() {
        Check c = new Check().fault(1, 6, "let x ? close").fault(1, 6, "let x ?1 close").fault(1, 6, "let x ??a close").fault(1, 6, "let x ?A close");
        c.fault(1, 6, "let x ?abcdefghi close").fault(1, 6, "let x ?a? close").fault(1, 6, "let x a? close").fault(1, 6, "let x ?(a) close").fault(1, 6, "let x ? a close");
        c.text("let x ?a close").is(3, "keep", 0).text("let x ?abcdefgh close").is(3, "keep", 1).writes("let x ?abcdefgh close", "print", 1);
    }

    // ---- a long that is no NAME so is none; they are in order as these numbers

    static void part1LongsThatAreNames() {
        Check c = new Check();
        c.is(1, "total", 0x61L, 0).is(1, "total", 0x7aL, 0).is(1, "total", 6382689L, 0).is(1, "total", 0x7a7a7a7a7a7a7a7aL, 0).is(1, "total", 0x6130303030303039L, 0);
        for (long none : new long[] {0, 0x60, 0x7b, -1, 1, 0x20, 0x30, 0x41, 0xe1, 0x6100, 0x610061, 0x6161616161616100L, 0x6100000000000000L, 0x7b61616161616161L,
            0x6061616161616161L, 0x3061616161616161L, 0xe161616161616161L, Long.MAX_VALUE, Long.MIN_VALUE, 0x100000061L | 0x01000000L, 0x6261L << 32, 0x616160L, 0x61613aL, 0x61612fL}) {
            c.refuses(Check.ARGUMENT, "total", none, 0);
        }
    }

    static void part1NamesAreInOrderAsTheirNumbers() {
        List<String> order = List.of("a", "z", "a0", "aa", "az", "b0", "zz", "a00", "zzz", "a0000000", "zzzzzzzz");
        List<String> mixed = new ArrayList<>(order);
        java.util.Collections.reverse(mixed);
        StringBuilder text = new StringBuilder();
        for (String name : mixed) text.append("let ").append(name).append(" 1 ");
        Check c = new Check().keep(0, text + "when [] 9 close").is(0, "begin", 0, 0, 0L).transact(0, 0, 0, 0, "");
        for (int e = 0; e < order.size(); e++) c.is(Check.n(order.get(e)), "name", 0, 3, e, false);
        c.is(Check.INDEX, "name", 0, 3, order.size(), false);
    }

    // ---- NUMBERS that come of reckoning have 300 digits at most; one that would have more is LARGE

    static void part1ProductsOfPowersOf10() {
        for (int first : new int[] {0, 1, 8, 9, 10, 100, 149, 150, 151, 152, 153, 154, 161, 162, 170, 200, 290, 291, 298, 299}) {
            StringBuilder lets = new StringBuilder();
            for (int second = 299 - first; second >= 0 && second > 293 - first; second--) lets.append("let x mul 1" + "0".repeat(first) + " 1" + "0".repeat(second) + " ");
            new Check().keep(0, lets + "when [] 9 close").is(0, "begin", 0, 0, 0L).transact(0, 0, 0, 0, "");
            for (int second = 300 - first; second < 300; second += second < 310 - first ? 1 : 7) {
                Check c = new Check().keep(0, "let x mul 1" + "0".repeat(first) + " 1" + "0".repeat(second) + " close").is(0, "begin", 0, 0, 0L).transact(-8, 0, 0, 0, "");
            }
        }
    }

    static void part1ReckoningHas300DigitsAtMost() {
        String half = "1" + "0".repeat(150);
        String[][] rows = {
            {"add " + NINES.substring(1) + "8 1", NINES}, {"add " + NINES + " 0", NINES}, {"add " + NINES + " 1", null}, {"add 1 " + NINES, null},
            {"sub -" + NINES.substring(1) + "8 1", "-" + NINES}, {"sub -" + NINES + " 0", "-" + NINES}, {"sub -" + NINES + " 1", null},
            {"sub " + NINES + " -1", null}, {"sub 1 -" + NINES, null}, {"add -" + NINES + " -1", null}, {"neg " + NINES, "-" + NINES},
            {"mul " + half + " 1" + "0".repeat(149), "1" + "0".repeat(299)}, {"mul " + half + " " + half, null}, {"mul -" + half + " " + half, null},
            {"mul 1" + "0".repeat(299) + " 9", "9" + "0".repeat(299)}, {"mul 1" + "0".repeat(299) + " 10", null}, {"mul -1" + "0".repeat(299) + " 10", null},
            {"mul 3 " + "3".repeat(300), NINES}, {"mul 3 " + "3".repeat(299) + "4", null}, {"mul " + NINES + " " + NINES, null}, {"mul " + NINES + " 0", "0"},
            {"mul " + NINES + " -1", "-" + NINES}, {"sub add " + NINES + " 1 1", null}, {"div " + NINES + " 1", NINES}, {"sub " + NINES + " " + NINES, "0"}};
        for (String[] row : rows) {
            Check c = new Check().keep(0, "let x " + row[0] + " when [] 9 close").is(0, "begin", 0, 0, 0L);
            if (row[1] == null) c.text("").refuses(-8, "transact", 0, 0L, 0L);
            else c.transact(0, 0, 0, 0, "").writes(row[1], "entry", 0, 3, 0);
        }
    }
}
