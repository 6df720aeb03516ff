import java.util.Arrays;

/** Terms, part 7: the journal, and which exception a call throws. */
final class Part7Boundaries {
    static final long ADA = Check.n("ada");
    static final long GOLD = Check.n("gold");
    static final long LAST = 1000000000000000L;
    static final String GONE = "throws.IllegalStateException";

    /** One call of each sort that writes a record, and the record that is due. */
    enum Sort {
        KEEP(1, "close ", "keep", new Object[] {5}, new long[] {5}, 1),
        DROP(2, "", "drop", new Object[] {1}, new long[] {1}, 0),
        BEGIN(3, "", "begin", new Object[] {15, 0, LAST}, new long[] {15, 0, LAST}, 0),
        END(4, "", "end", new Object[] {0}, new long[] {0}, 0),
        MINT(5, "9", "mint", new Object[] {ADA, GOLD}, new long[] {ADA, GOLD}, 0),
        TRANSACT(6, "deposit ada ada gold 5", "transact", new Object[] {1, 2L, 7L}, new long[] {1, 2, 7}, 0),
        PARAMETER(7, " -5", "parameter", new Object[] {Check.n("p")}, new long[] {Check.n("p")}, 2),
        FORGET(8, "", "forget", new Object[0], new long[0], 2);

        final int kind;
        final String text;
        final String call;
        final Object[] args;
        final long[] numbers;
        final int due;

        Sort(int kind, String text, String call, Object[] args, long[] numbers, int due) {
            this.kind = kind;
            this.text = text;
            this.call = call;
            this.args = args;
            this.numbers = numbers;
            this.due = due;
        }

        int length() { return 7 + 8 * numbers.length + text.length(); }

        int[] record(int at) { return Check.record(at, length(), kind, numbers, text); }

        Check does(Check c, Object answer) { return c.text(text).is(answer, call, args); }

        Check refuses(Check c, Object answer) { return c.refusesText(answer, text, call, args); }
    }

    /** Where each of those calls can be done; two PARAMETERS are told, p and fill, by a record that ends at a byte. */
    static Check ready(int used) {
        Check c = new Check().keep(0, "close").keep(1, "when [case deposit ada ada gold 5 close] 9 close").mint("ada", "gold", 5).set("p", 1);
        return c.is(0, "begin", 0, 0, 0L).is(0, "begin", 1, 1, 3L).fillTo(used);
    }

    static void bytesAre(Check c, int at, int[] bytes) {
        for (int i = 0; i < bytes.length; i++) c.is(bytes[i], "peek", at + i);
    }

    // ---- THE DISK has bytes 0 .. 16383, at first 0

    static void part7DiskIs0AtFirst() {
        Check c = new Check();
        for (int i = 0; i < 16384; i++) c.is(0, "peek", i);
        c.is(Check.INDEX, "peek", 16384).is(Check.INDEX, "peek", -1).is(0, "recover").is(0, "told", 3).is(0, "told", 4);
    }

    // ---- A RECORD is: L, KIND, NUMBERS, TEXT, CHECK; records stand one behind the other from byte 0 on

    static void part7RecordOfEachKind() {
        for (Sort s : Sort.values()) {
            Check c = ready(500);
            s.does(c, s.due).is(500 + s.length(), "told", 3).is(8, "told", 4);
            bytesAre(c, 500, s.record(500));
            c.is(8, "recover").is(500 + s.length(), "told", 3).is(8, "told", 4);
        }
        Check c = new Check().is(0, "forget").is(0, "forget");
        bytesAre(c, 0, Check.record(0, 7, 8, new long[0], ""));
        bytesAre(c, 7, Check.record(7, 7, 8, new long[0], ""));
    }

    static void part7TextOfARecordIsTheTapeAsItWas() {
        for (String text : new String[] {"close", " close", "close ", "(close)", "\u0000close\n"}) {
            Check c = new Check().text(text).is(1, "keep", 2);
            bytesAre(c, 0, Check.record(0, 15 + text.length(), 1, new long[] {2}, text));
            c.is(1, "recover").writes("close", "print", 2);
        }
        // START as told, though the LEAST TIME is greater
        Check c = new Check().keep(0, "when [] 3 when [] 9 close").is(0, "begin", 0, 0, 5L);
        int at = c.number("told", 3);
        c.text("").is(0, "transact", 0, 1L, 6L);
        bytesAre(c, at, Check.record(at, 31, 6, new long[] {0, 1, 6}, ""));
        c.is(3, "recover").is(5, "state", 0, 0);
    }

    static void part7LengthHasTwoBytes() {
        for (int text = 240; text <= 242; text++) {
            Check c = new Check().text("close" + " ".repeat(text - 5)).is(1, "keep", 0).is(15 + text, "told", 3);
            c.is((15 + text) / 256, "peek", 0).is((15 + text) % 256, "peek", 1).is(1, "recover");
        }
    }

    static void part7RefusedCallsWriteNoRecord() {
        Check c = ready(500);
        c.refusesText(-1, "x", "keep", 5).refusesText(Check.STATE, "close", "keep", 0).refuses(Check.STATE, "drop", 5).refuses(Check.STATE, "begin", 0, 0, 0L).refuses(Check.STATE, "end", 1);
        c.refusesText(-5, "0", "mint", ADA, GOLD).refusesText(-6, "", "transact", 1, 3L, 4L).refusesText(-1, "", "parameter", ADA).refusesText(Check.ARGUMENT, "1", "parameter", 0L);
        // calls that only tell write none, either
        c.ask("print", 0);
        c.ask("look", 1, false, 31, 9);
        c.ask("total", GOLD, 2);
        c.is(500, "told", 3).is(7, "told", 4);
    }

    // ---- it is refused as FULL, if there is no room for it

    static void part7FullIfThereIsNoRoom() {
        for (Sort s : Sort.values()) {
            Check c = ready(16384 - s.length() + 1);
            s.refuses(c, -10);
            c = ready(16384 - s.length());
            s.does(c, s.due).is(16384, "told", 3).is(8, "told", 4).is(8, "recover").is(16384, "told", 3);
            c.refuses(-10, "forget");
            c = ready(16384 - s.length() - 1);
            s.does(c, s.due).is(16383, "told", 3).is(8, "recover").refuses(-10, "forget");
        }
    }

    static void part7TextOfFullLength() {
        for (int text = 16368; text <= 16370; text++) {
            Check c = new Check().text("close" + " ".repeat(text - 5));
            if (text == 16370) c.refuses(-10, "keep", 0);
            else c.is(1, "keep", 0).is(15 + text, "told", 3).is(1, "recover").is(15 + text, "told", 3);
        }
    }

    static void part7FullIsLookedAtLast() {
        Check c = ready(16383);
        c.refusesText(-1, "x", "keep", 5).refusesText(Check.STATE, "close", "keep", 0).refusesText(Check.INDEX, "close", "keep", 16).refuses(Check.STATE, "drop", 5);
        c.refuses(Check.ARGUMENT, "begin", 5, 0, -1L).refuses(Check.STATE, "begin", 0, 0, 0L).refuses(Check.STATE, "end", 1).refusesText(-5, "0", "mint", ADA, GOLD);
        c.refusesText(-8, "9".repeat(300), "mint", ADA, GOLD).refusesText(-6, "", "transact", 1, 3L, 4L).refusesText(-2, "", "transact", 1, 4L, 3L).refusesText(-3, "", "transact", 1, 0L, 2L);
        c.refusesText(-4, "", "transact", 1, 3L, 9L).refusesText(-5, "notify", "transact", 1, 3L, 3L).refusesText(-1, "1 2", "parameter", ADA).refusesText(-10, "1", "parameter", ADA);
        c.refusesText(-10, "deposit ada ada gold 5", "transact", 1, 3L, 3L).refuses(-10, "forget").refuses(-10, "begin", 5, 0, 0L).refuses(-10, "end", 0).refuses(-10, "drop", 0);
    }

    static void part7FullDoesNotEndTheFuse() {
        Check c = ready(16384 - 7).is("void", "fuse", 7).refuses(-10, "drop", 0).is(2, "forget").is(0, "told", 7).refuses(-10, "forget").is(0, "told", 7);
        c = ready(16384 - 6).is("void", "fuse", 0).refuses(-10, "forget").is(0, "told", 7);
    }

    // ---- first the byte at which the KIND of a record right behind it would stand becomes 0 (if that is on the disk)

    static void part7KindBehindARecordBecomes0() {
        for (int end = 16380; end <= 16384; end++) {
            Check c = new Check().fillTo(end - 7).is("void", "cut");
            for (int i = end; i < 16384; i++) c.is(0, "poke", i, 8);
            c.is(1, "recover").is(1, "forget");
            for (int i = end; i < 16384; i++) c.is(i == end + 2 ? 0 : 8, "peek", i);
        }
        Check c = new Check().is("void", "cut");
        for (int i = 0; i < 20; i++) c.is(0, "poke", i, 255);
        c.is(0, "recover").is(0, "forget");
        for (int i = 7; i < 20; i++) c.is(i == 9 ? 0 : 255, "peek", i);
    }

    static void part7NothingOlderBehindIsARecord() {
        // three forgets, of which the first is spoiled; the second stands where it stood
        Check c = new Check().is(0, "forget").is(0, "forget").is(0, "forget").is("void", "cut").is(8, "poke", 2, 0).is(0, "recover").is(8, "peek", 9).is(8, "peek", 16);
        c.is(0, "forget").is(0, "peek", 9).is(8, "peek", 16).is(1, "recover").is(0, "forget").is(8, "peek", 9).is(0, "peek", 16).is(2, "recover").is(0, "forget").is(3, "recover");
    }

    // ---- if the FUSE ends before the last one, the power is CUT

    static void part7FuseAtTheLastByteOfEachKind() {
        for (Sort s : Sort.values()) {
            for (int less = 2; less >= 1; less--) {
                Check c = ready(500).is("void", "fuse", s.length() - less);
                String before = "" + c.ask("told", 0) + c.ask("told", 1) + c.ask("told", 5) + c.ask("told", 6);
                s.does(c, GONE).is(1, "told", 7).is(500, "told", 3).is(7, "told", 4).is(0, "told", 2);
                String after = "" + c.ask("told", 0) + c.ask("told", 1) + c.ask("told", 5) + c.ask("told", 6);
                Check.so(after.equals(before), s + " whose record is cut is not done");
                c.is(7, "recover").is(500, "told", 3).is(0, "told", 7);
                s.does(c, s.due).is(8, "told", 4);
            }
            // the last byte is written: DONE, and the next record is cut before its first byte
            Check c = ready(500).is("void", "fuse", s.length());
            s.does(c, s.due).is(0, "told", 7).is(8, "told", 4).is(GONE, "forget").is(1, "told", 7).is(8, "recover");
            c = ready(500).is("void", "fuse", s.length() + 1);
            s.does(c, s.due).is(0, "told", 7).is(GONE, "forget").is(0, "peek", 500 + s.length()).is(8, "recover");
        }
    }

    static void part7CutRecordAtEveryByte() {
        Sort s = Sort.PARAMETER;
        int[] record = s.record(500);
        for (int fuse = 0; fuse <= s.length(); fuse++) {
            Check c = ready(500).is("void", "cut");
            for (int i = 500; i < 530; i++) c.ask("poke", i, 200);
            c.is(7, "recover").is("void", "fuse", fuse);
            s.does(c, fuse == s.length() ? (Object) s.due : GONE);
            for (int i = 0; i < 30; i++) {
                boolean isKind = i == 2 && fuse < s.length() || i == s.length() + 2;
                c.is(isKind ? 0 : i < fuse ? record[i] : 200, "peek", 500 + i);
            }
        }
    }

    static void part7CutRecordIsNoneWhateverStandsBehind() {
        // the same record stands there already: all but its KIND would be right
        Check c = new Check().is(0, "forget").is(0, "forget").is("void", "cut").is(8, "poke", 9, 0).is(1, "recover").is("void", "fuse", 1).is(GONE, "forget");
        c.is(0, "peek", 9).is(1, "recover").is(0, "forget").is(2, "recover");
    }

    static void part7FaultOfATextWhoseRecordIsCut() {
        Check c = new Check().text("!").is(-1, "keep", 0).is(1, "fault", false).is("void", "fuse", 0).text("close").is(GONE, "keep", 0).is(0, "fault", false).is(-1, "fault", true).is(0, "told", 2);
        c.is(0, "recover").is(-1, "fault", false);
    }

    // ---- while it is CUT all calls but recover(), poke(), peek(), told() and fault() throw IllegalState

    static final Object[][] CALLS = {
        {"feed", 0, 0, 0, 0, 0}, {"trim", 0}, {"trim", -1}, {"size"}, {"word", 0}, {"word", -1}, {"show"}, {"keep", 5}, {"keep", 0}, {"keep", 16}, {"drop", 0}, {"drop", 5}, {"drop", -1},
        {"print", 0}, {"print", 5}, {"print", 16}, {"about", 0, 0}, {"about", 0, 5}, {"about", 16, 0}, {"parameter", ADA}, {"parameter", 0L}, {"forget"}, {"begin", 5, 0, 0L}, {"begin", 5, 0, -1L},
        {"begin", 16, 0, 0L}, {"begin", 0, 16, 0L}, {"end", 0}, {"end", 1}, {"end", -1}, {"transact", 1, 3L, 3L}, {"transact", 1, 4L, 3L}, {"transact", 5, 0L, 0L}, {"transact", 16, 0L, 0L},
        {"rest", 0}, {"rest", 5}, {"rest", 16}, {"state", 0, 0}, {"state", 0, 6}, {"state", 16, 0}, {"entry", 0, 4, 0}, {"entry", 0, 0, 0}, {"entry", 0, 1, 0}, {"entry", 16, 1, 0},
        {"name", 0, 4, 0, false}, {"name", 0, 5, 0, false}, {"name", 0, 1, 0, true}, {"name", 16, 1, 0, true}, {"count", 0}, {"count", 2}, {"payment", 0, 0}, {"payment", 0, 4}, {"payment", 9, 0},
        {"amount", 0, false}, {"amount", 9, true}, {"warning", 0, 0}, {"warning", 0, 4}, {"warning", 9, 0}, {"mint", ADA, GOLD}, {"mint", 0L, GOLD}, {"wallet", ADA, GOLD}, {"wallet", ADA, 0L},
        {"total", GOLD, 0}, {"total", GOLD, 4}, {"total", 0L, 0}, {"wallets"}, {"look", 0, true, 1, 1}, {"look", 0, true, 0, 1}, {"look", 5, true, 1, 1}, {"look", 16, true, 1, 1}, {"tries"},
        {"fuse", 0}, {"fuse", -2}, {"cut"}};

    static void part7WhileItIsCutCallsThrowIllegalState() {
        Check c = ready(500).transact(0, 1, 3, 3, "deposit ada ada gold 5").text("!").is(-1, "keep", 5).text("12345").is("void", "cut");
        int[] told = {2, 2, 5, 553, 8, 6, 2, 1};
        for (int i = 553; i < 620; i++) c.is(0, "poke", i, 8);
        for (Object[] call : CALLS) {
            c.is(Check.STATE, (String) call[0], Arrays.copyOfRange(call, 1, call.length));
            for (int what = 0; what < 8; what++) c.is(told[what], "told", what);
            for (int i = 553; i < 620; i++) c.is(8, "peek", i);
            c.is(1, "fault", false).is(0, "fault", true);
        }
        // these do not
        c.is(8, "peek", 553).is(8, "poke", 553, 9).is(8, "recover").is(0, "told", 7).is(1, "count", 0);
    }

    static void part7TheFaceHasNoOtherCall() {
        java.util.Set<String> names = new java.util.TreeSet<>();
        for (Object[] call : CALLS) names.add((String) call[0]);
        names.addAll(java.util.List.of("recover", "poke", "peek", "told", "fault"));
        for (java.lang.reflect.Method m : PromisePlatform.class.getMethods()) {
            if (m.getDeclaringClass() == PromisePlatform.class) Check.so(names.remove(m.getName()), "the face has " + m.getName());
        }
        Check.so(names.isEmpty(), "the face has " + names);
    }

    // ---- of several that a call names, the first one in this order: CUT; IndexOutOfBounds; IllegalArgument; IllegalState

    static void part7OrderOfExceptions() {
        Check c = ready(500);
        Object[][] rows = {
            {Check.INDEX, "about", 16, 5}, {Check.ARGUMENT, "about", 5, 5}, {Check.STATE, "about", 5, 4}, {Check.INDEX, "begin", 16, 5, -1L}, {Check.INDEX, "begin", 0, 16, -1L},
            {Check.ARGUMENT, "begin", 0, 5, -1L}, {Check.STATE, "begin", 0, 0, 0L}, {Check.STATE, "begin", 5, 5, 0L}, {Check.INDEX, "state", 16, 6}, {Check.ARGUMENT, "state", 5, 6},
            {Check.STATE, "state", 5, 5}, {Check.INDEX, "entry", 16, 0, -1}, {Check.ARGUMENT, "entry", 5, 0, -1}, {Check.STATE, "entry", 5, 1, -1}, {Check.INDEX, "entry", 0, 1, 0},
            {Check.INDEX, "name", -1, 0, -1, true}, {Check.ARGUMENT, "name", 5, 5, -1, true}, {Check.STATE, "name", 5, 4, -1, true}, {Check.INDEX, "name", 0, 4, 2, true},
            {Check.INDEX, "payment", 0, 4}, {Check.INDEX, "warning", 0, 4}, {Check.INDEX, "look", 16, true, 0, -1}, {Check.ARGUMENT, "look", 5, true, 0, 0}, {Check.ARGUMENT, "look", 5, false, 1, 401},
            {Check.STATE, "look", 5, true, 1, 0}, {Check.STATE, "look", 5, false, 1, 0}, {Check.INDEX, "poke", 16384, 256}, {Check.ARGUMENT, "poke", 0, 256}, {Check.STATE, "poke", 0, 255}};
        for (Object[] row : rows) c.refuses(row[0], (String) row[1], Arrays.copyOfRange(row, 2, row.length));
    }

    // ---- recover() takes all that there is away

    static void part7RecoverTakesAllAway() {
        Check c = ready(500).keep(2, "when [case deposit ada ada gold 5 assert false close] 9 close").is(0, "begin", 2, 2, 0L).transact(0, 2, 0, 0, "deposit ada ada gold 5").is(1, "count", 0).is(1, "count", 1);
        c.is(0, "look", 1, true, 31, 9).text("!").is(-1, "keep", 5).text("12345").is(5, "show").is("void", "cut").is(10, "told", 4).is(0, "poke", 0, 1).is(0, "recover");
        for (int what = 0; what < 8; what++) c.is(0, "told", what);
        c.is(0, "size").is(0, "word", 0).is(0, "show").is(-1, "fault", false).is(-1, "fault", true).is(0, "wallets").is(0, "tries").is(0, "count", 0).is(0, "count", 1);
        for (int what = 0; what < 4; what++) c.writes("0", "total", GOLD, what);
        for (int i = 0; i < 16; i++) c.is(Check.STATE, "print", i).is(Check.STATE, "rest", i);
        c.is(0, "forget");
    }

    static void part7NoFuseBehindRecover() {
        new Check().is("void", "fuse", 0).is(0, "recover").is(0, "forget").is(0, "told", 7);
        new Check().is("void", "fuse", 0).is(GONE, "forget").is(0, "recover").is(0, "forget").is(0, "forget").is(0, "told", 7).is(2, "recover");
        new Check().is("void", "fuse", 3).is("void", "cut").is(0, "recover").is(0, "forget");
    }

    // ---- up to the first that is none

    /** Bytes at the end of 500: how many records are done again, of the seven before it and of these. */
    static Check laid(int due, int[] bytes) {
        Check c = ready(500).lay(500, bytes).is(7 + due, "recover").is(7 + due, "told", 4).is(due == 0 ? 500 : 500 + bytes.length, "told", 3);
        // what is written next stands where that record did
        if (due == 0) {
            c.is(2, "forget");
            bytesAre(c, 500, Check.record(500, 7, 8, new long[0], ""));
            c.is(8, "recover");
        }
        return c;
    }

    /** A record with another L, and the CHECK that is right for it so. */
    static int[] withLength(Sort s, int length) {
        int[] b = s.record(500);
        b[0] = length >> 8 & 255;
        b[1] = length & 255;
        Check.sign(b, 500);
        return b;
    }

    static void part7LengthBelow7OrNotAsItsKindTakes() {
        laid(1, Sort.FORGET.record(500));
        for (int length : new int[] {0, 1, 6, 8, 15, 16384, 16385, 32768, 65535}) laid(0, withLength(Sort.FORGET, length));
        for (Sort s : Sort.values()) {
            laid(1, s.record(500));
            boolean takesText = s.kind == 1 || s.kind >= 5 && s.kind <= 7;
            if (takesText) continue;
            // a byte more or less, or a NUMBER, with a CHECK where L says
            for (int more : new int[] {-8, -1, 1, 8}) {
                if (s.length() + more >= 7) laid(0, resized(s.record(500), s.length() + more));
            }
        }
    }

    static int[] resized(int[] record, int length) {
        int[] b = Arrays.copyOf(record, length);
        for (int i = record.length - 4; i < length; i++) b[i] = 0;
        b[0] = length >> 8;
        b[1] = length & 255;
        Check.sign(b, 500);
        return b;
    }

    static void part7LengthOfAnEmptyText() {
        // kind 6 takes an empty text; others find a fault in it
        Check c = new Check().keep(0, "when [] 9 close").is(0, "begin", 0, 0, 0L);
        int at = c.number("told", 3);
        c.lay(at, Check.record(at, 31, 6, new long[] {0, 9, 9}, "")).is(3, "recover").is(1, "state", 0, 5);
        laid(0, Check.record(500, 15, 1, new long[] {5}, ""));
        laid(0, Check.record(500, 23, 5, new long[] {ADA, GOLD}, ""));
        laid(0, Check.record(500, 15, 7, new long[] {ADA}, ""));
        // one byte less than the NUMBERS take
        laid(0, shorter(31, 6, 3));
        laid(0, shorter(15, 1, 1));
        laid(0, shorter(23, 5, 2));
        laid(0, shorter(15, 7, 1));
        laid(0, shorter(15, 2, 1));
        laid(0, shorter(31, 3, 3));
        laid(0, shorter(15, 4, 1));
    }

    static int[] shorter(int length, int kind, int numbers) {
        return resized(Check.record(500, length, kind, new long[numbers], ""), length - 1);
    }

    static void part7KindIs1To8() {
        for (int kind : new int[] {0, 9, 10, 128, 255}) {
            laid(0, Check.record(500, 7, kind, new long[0], ""));
            laid(0, Check.record(500, 15, kind, new long[] {0}, ""));
        }
        laid(1, Check.record(500, 7, 8, new long[0], ""));
        laid(1, Check.record(500, 20, 1, new long[] {5}, "close"));
    }

    static void part7CheckIsAnotherOne() {
        for (Sort s : new Sort[] {Sort.FORGET, Sort.MINT}) {
            for (int i = 0; i < s.length(); i++) {
                for (int bit : new int[] {1, 128}) {
                    int[] b = s.record(500);
                    b[i] ^= bit;
                    laid(0, b);
                }
            }
            // its place is of the CHECK
            laid(0, s.record(499));
            laid(0, s.record(501));
            laid(0, s.record(0));
        }
    }

    static void part7BytesAreNotAllOnTheDisk() {
        for (int free = 0; free <= 9; free++) {
            Check c = new Check().fillTo(16384 - free);
            int[] b = Check.record(16384 - free, 7, 8, new long[0], "");
            c.lay(16384 - free, Arrays.copyOf(b, Math.min(7, free))).is(free >= 7 ? 2 : 1, "recover").is(free >= 7 ? 16391 - free : 16384 - free, "told", 3);
        }
        // a text that goes to the last byte, or one byte behind it
        for (int length = 99; length <= 101; length++) {
            Check c = new Check().fillTo(16284);
            int[] b = Check.record(16284, length, 7, new long[] {ADA}, "1");
            c.lay(16284, Arrays.copyOf(b, Math.min(100, length))).is(length > 100 ? 1 : 2, "recover");
        }
        // the whole disk is one record
        Check c = new Check().lay(0, Check.record(0, 16384, 1, new long[] {7}, "close")).is(1, "recover").writes("close", "print", 7).is(16384, "told", 3).refuses(-10, "forget");
        c = new Check().lay(0, Arrays.copyOf(Check.record(0, 16385, 1, new long[] {7}, "close"), 16384)).is(0, "recover").is(0, "told", 0);
    }

    static void part7WhatItDoesWouldBeRefusedOrThrow() {
        Object[][] none = {{1, "close", 0L}, {1, "close", 16L}, {1, "close", -1L}, {1, "close", 1L << 32}, {1, "close", (1L << 32) + 5}, {1, "close close", 5L}, {2, "", 5L}, {2, "", 16L}, {2, "", 1L << 32},
            {3, "", 0L, 0L, 0L}, {3, "", 5L, 5L, 0L}, {3, "", 16L, 0L, 0L}, {3, "", 5L, 16L, 0L}, {3, "", 5L, 0L, -1L}, {3, "", 5L, 0L, LAST + 1}, {3, "", 5L, 1L << 32, 0L}, {3, "", (1L << 32) + 5, 0L, 0L},
            {4, "", 1L}, {4, "", 5L}, {4, "", 16L}, {4, "", 1L << 32}, {5, "0", ADA, GOLD}, {5, "-1", ADA, GOLD}, {5, "1 1", ADA, GOLD}, {5, "1", 0L, GOLD}, {5, "1", ADA, Check.n("to")},
            {5, "9".repeat(300), ADA, GOLD}, {6, "", 1L, 3L, 3L}, {6, "", 1L, 4L, 3L}, {6, "", 1L, 0L, 2L}, {6, "", 1L, 3L, 9L}, {6, "notify", 1L, 3L, 3L}, {6, "x", 1L, 3L, 3L}, {6, "", 5L, 9L, 9L},
            {6, "", 16L, 9L, 9L}, {6, "", (1L << 32) + 1, 9L, 9L}, {6, "", 1L, 9L, LAST + 1}, {6, "", 1L, -1L, 9L}, {7, "x", ADA}, {7, "", ADA}, {7, "1", Check.n("if")}, {7, "1", -1L}};
        for (Object[] row : none) laid(0, of(row));
        Object[][] some = {{1, "close", 15L}, {2, "", 0L}, {2, "", 1L}, {3, "", 15L, 0L, LAST}, {3, "", 5L, 1L, 0L}, {4, "", 0L}, {5, "1", ADA, GOLD}, {6, "", 1L, 9L, 9L}, {6, "", 1L, 9L, LAST},
            {6, "deposit ada ada gold 5", 1L, 0L, 3L}, {7, "-0", ADA}};
        for (Object[] row : some) laid(1, of(row));
    }

    static int[] of(Object[] row) {
        long[] numbers = new long[row.length - 2];
        for (int i = 0; i < numbers.length; i++) numbers[i] = (Long) row[i + 2];
        String text = (String) row[1];
        return Check.record(500, 7 + 8 * numbers.length + text.length(), (Integer) row[0], numbers, text);
    }

    // ---- fault() and tries() tell what they tell at first, the tape and the out are empty

    static void part7BehindRecoverAllButTheRecordsIsAsAtFirst() {
        Check c = ready(500).is(0, "look", 1, true, 31, 9).is(2, "tries").text("!").is(-1, "keep", 5).text("abc").is(3, "show").is(7, "recover");
        c.is(0, "tries").is(-1, "fault", false).is(-1, "fault", true).is(0, "told", 2).is(0, "size").is(2, "told", 0).is(2, "told", 1).is(2, "told", 6).is(500, "told", 3).is(7, "told", 4);
    }

    // ---- a call that throws changes nothing but the tape, and what fault() tells of that TEXT, if it was read

    static void part7TextThatIsNotReadHasNoFault() {
        Check c = ready(500).text("1 !").is(-1, "mint", ADA, GOLD).is(1, "fault", false).is(2, "fault", true);
        c.refusesText(Check.INDEX, "", "keep", 16).refusesText(Check.STATE, "", "keep", 0).refusesText(Check.ARGUMENT, "", "parameter", 0L).refusesText(Check.ARGUMENT, "", "mint", ADA, 0L);
        c.refusesText(Check.INDEX, "", "transact", 16, 0L, 0L).refusesText(Check.STATE, "", "transact", 5, 0L, 0L).is(1, "fault", false).is(2, "fault", true);
    }
}
