/** Terms, part 3: what values and observations are. */
final class Part3Boundaries {
    static final String NINES = "9".repeat(300);
    static final String EIGHT = "9".repeat(299) + "8";
    static final String LARGE = "add " + NINES + " 1";
    static final String WAITING = " when [] 90 close";

    /** What a value is, worked out by a let from 10 to 12. */
    static void value(String due, String value) {
        Check c = new Check().keep(0, "let x " + value + WAITING).set("p", "-7").is(0, "begin", 0, 0, 0L);
        if (due == null) c.text("").refuses(-8, "transact", 0, 10L, 12L);
        else c.transact(0, 0, 10, 12, "").is(1, "state", 0, 3).writes(due, "entry", 0, 3, 0);
    }

    static void truth(Boolean due, String observation) {
        Check c = new Check().keep(0, "assert " + observation + WAITING).is(0, "begin", 0, 0, 0L);
        if (due == null) c.text("").refuses(-8, "transact", 0, 10L, 12L);
        else c.transact(0, 0, 10, 12, "").is(due ? 0 : 1, "count", 1);
    }

    static void part3HeldIs0ForNone() {
        String held = "let x held ada gold let y held ada oil let z held bob gold";
        Check c = new Check().mint("ada", "gold", 1).keep(0, "when [case deposit ada ada gold 1 " + held + WAITING + "] 9 " + held + WAITING);
        c.is(0, "begin", 0, 0, 0L).is(0, "begin", 1, 0, 0L).transact(0, 0, 0, 0, "deposit ada ada gold 1").writes("1", "entry", 0, 3, 0);
        c.writes("0", "entry", 0, 3, 1).writes("0", "entry", 0, 3, 2).transact(0, 1, 9, 9, "").writes("0", "entry", 1, 3, 0);
    }

    static void part3ChosenIs0ForNoneAndTheLastOne() {
        String chosen = "let x chosen c ada let y chosen c bob let z chosen d ada assert chose c ada assert chose c bob";
        Check c = new Check().keep(0, chosen + " when [case choice c ada [1 9] when [case choice c ada [0 9] " + chosen + WAITING + "] 9 close] 9 close").is(0, "begin", 0, 0, 0L);
        c.transact(0, 0, 0, 0, "").is(2, "count", 1).transact(0, 0, 0, 0, "choice c ada 7 choice c ada 0").writes("0", "entry", 0, 3, 0);
        // 0 was chosen: chose is true; two lets of each NAME and one assert warn
        c.is(4, "count", 1).is(4, "warning", 0, 0).is(5, "warning", 3, 0);
        c = new Check().keep(0, "when [case choice c ada [1 9] " + chosen + WAITING + "] 9 close").is(0, "begin", 0, 0, 0L).transact(0, 0, 0, 0, "choice c ada 7");
        c.writes("7", "entry", 0, 3, 0).writes("0", "entry", 0, 3, 1).writes("0", "entry", 0, 3, 2).is(1, "count", 1);
    }

    static void part3UseIs0ForNoneAndTheLastOne() {
        Check c = new Check().keep(0, "let x use x let y use z let x 5 let x add use x 1 let y use x" + WAITING).is(0, "begin", 0, 0, 0L).transact(0, 0, 0, 0, "");
        c.is(2, "state", 0, 3).writes("6", "entry", 0, 3, 0).writes("6", "entry", 0, 3, 1).writes("0", "amount", 0, true).writes("5", "amount", 1, true).writes("0", "amount", 2, true);
    }

    static void part3StartAndEnd() {
        value("10", "start");
        value("12", "end");
        // START is the greater one of START and LEAST TIME
        for (int least = 9; least <= 11; least++) {
            Check c = new Check().keep(0, "let x start let y end" + WAITING).is(0, "begin", 0, 0, (long) least).transact(0, 0, 10, 12, "");
            c.writes("" + Math.max(10, least), "entry", 0, 3, 0).writes("12", "entry", 0, 3, 1).is(Math.max(10, least), "state", 0, 0);
        }
        Check c = new Check().keep(0, "let x start let y end close").is(0, "begin", 0, 0, 0L).is(0, "begin", 1, 0, 1000000000000000L).transact(0, 0, 0, 0, "");
        c.writes("0", "entry", 0, 3, 0).writes("0", "entry", 0, 3, 1).transact(0, 1, 0, 1000000000000000L, "");
        c.writes("1000000000000000", "entry", 1, 3, 0).writes("1000000000000000", "entry", 1, 3, 1);
    }

    static void part3ParameterIsWhatTheInstanceHas() {
        value("-7", "?p");
        value("7", "neg ?p");
        value(null, "sub ?p " + EIGHT);
    }

    static void part3NegOf0Is0() {
        value("0", "neg 0");
        value("-1", "neg 1");
        value("1", "neg -1");
        value(NINES, "neg -" + NINES);
        value("0", "sub 5 5");
        value("0", "add 5 -5");
        value("-1", "sub 5 6");
        value("0", "mul 0 -5");
        value("0", "mul -5 0");
        truth(true, "eq neg 0 0");
        truth(true, "eq mul 0 -5 0");
    }

    static void part3DivIsTowards0And0By0() {
        String[][] rows = {{"7", "2", "3"}, {"-7", "2", "-3"}, {"7", "-2", "-3"}, {"-7", "-2", "3"}, {"6", "2", "3"}, {"5", "6", "0"}, {"6", "6", "1"}, {"7", "6", "1"}, {"-5", "6", "0"},
            {"-6", "6", "-1"}, {"1", "0", "0"}, {"0", "0", "0"}, {"-1", "0", "0"}, {NINES, "0", "0"}, {"0", "5", "0"}, {"0", "-5", "0"}, {NINES, "1", NINES}, {NINES, "-1", "-" + NINES},
            {NINES, NINES, "1"}, {EIGHT, NINES, "0"}, {NINES, EIGHT, "1"}, {"-" + NINES, EIGHT, "-1"}, {"1000000000", "999999999", "1"}, {"1000000000", "2", "500000000"}, {"1000000000000000000", "2000000000", "500000000"}, {"1000000000000000000", "1000000000000000001", "0"}, {"999999999999999999", "1000000000", "999999999"},
            {"1000000000000000000", "1000000000", "1000000000"}, {"1000000000000000000", "999999999", "1000000001"}, {"999999999999999998999999999", "999999999999999999", "999999999"}};
        for (String[] row : rows) {
            String quotient = "div " + row[0] + " " + row[1];
            value(row[2], quotient);
            // it is the same NUMBER as one that was written
            truth(true, "eq " + quotient + " " + row[2]);
            truth(false, "lt " + quotient + " " + row[2]);
            truth(false, "gt " + quotient + " " + row[2]);
        }
    }

    static void part3AddSubMulWhereNineDigitsEnd() {
        String[][] rows = {{"add 999999999 1", "1000000000"}, {"add 999999998 1", "999999999"}, {"add 1 999999999999999999", "1000000000000000000"}, {"add 999999999 999999999", "1999999998"},
            {"sub 1000000000 1", "999999999"}, {"sub 1000000000000000000 1", "999999999999999999"}, {"sub 1000000000 1000000000", "0"}, {"sub 1 1000000000", "-999999999"}, {"sub 1 2000000001", "-2000000000"}, {"add -3000000000000000000 1", "-2999999999999999999"},
            {"sub 1000000000000000000 999999999999999999", "1"}, {"add -1000000000 1", "-999999999"}, {"add 1 -1000000000", "-999999999"}, {"sub -999999999 1", "-1000000000"}, {"add 0 -5", "-5"},
            {"sub 0 5", "-5"}, {"sub 0 -5", "5"}, {"add -5 0", "-5"}, {"mul 999999999 999999999", "999999998000000001"}, {"mul 1000000000 1000000000", "1000000000000000000"}, {"mul -1 1000000000", "-1000000000"},
            {"mul 999999999999999999 999999999999999999", "999999999999999998000000000000000001"}, {"mul -3 -4", "12"}, {"mul 3 -4", "-12"}, {"mul 1000000000 5", "5000000000"},
            {"sub mul 999999999 999999999 mul 999999998 1000000000", "1"}};
        for (String[] row : rows) {
            value(row[1], row[0]);
            truth(true, "eq " + row[0] + " " + row[1]);
            truth(true, "gt add 1 " + row[0] + " " + row[1]);
        }
        // again and again by the same object: nothing of what was worked out before stays
        StringBuilder lets = new StringBuilder();
        for (String[] row : rows) lets.append("let x ").append(row[0]).append(' ');
        Check c = new Check().keep(0, lets + "when [] 90 close").is(0, "begin", 0, 0, 0L).transact(0, 0, 0, 0, "").is(rows.length - 1, "count", 1);
        for (int i = 0; i + 1 < rows.length; i++) c.writes(rows[i][1], "amount", i, true);
    }

    static void part3CondWorksOutJustOneValue() {
        value("1", "cond true 1 " + LARGE);
        value("1", "cond false " + LARGE + " 1");
        value(null, "cond true " + LARGE + " 1");
        value(null, "cond false 1 " + LARGE);
        value(null, "cond eq 1 " + LARGE + " 1 2");
        value("1", "cond true 1 cond true " + LARGE + " " + LARGE);
    }

    static void part3AllOthersAreWorkedOut() {
        truth(null, "and false eq 1 " + LARGE);
        truth(null, "or true eq 1 " + LARGE);
        truth(null, "and eq 1 " + LARGE + " false");
        truth(null, "or eq 1 " + LARGE + " true");
        value(null, "mul 0 " + LARGE);
        value(null, "mul " + LARGE + " 0");
        value(null, "div 0 " + LARGE);
        value(null, "div " + LARGE + " 0");
        value(null, "sub " + LARGE + " " + LARGE);
        truth(null, "not eq " + LARGE + " " + LARGE);
    }

    static void part3AndOrNot() {
        boolean[] both = {false, true};
        for (boolean a : both) {
            for (boolean b : both) {
                truth(a && b, "and " + a + " " + b);
                truth(a || b, "or " + a + " " + b);
            }
            truth(!a, "not " + a);
        }
    }

    static void part3OrdersAtTheSameAndBeside() {
        String[][] rows = {{"4", "5", "6"}, {"-1", "0", "1"}, {"-6", "-5", "-4"}, {"999999999", "1000000000", "1000000001"}, {EIGHT, NINES, null}, {null, "-" + NINES, "-" + EIGHT},
            {"-" + NINES, "0", NINES}, {"5", "10", "11"}, {"-10", "-5", "0"}};
        for (String[] row : rows) {
            for (int i = 0; i < 3; i++) {
                if (row[i] == null) continue;
                String two = " " + row[i] + " " + row[1];
                truth(i >= 1, "ge" + two);
                truth(i > 1, "gt" + two);
                truth(i <= 1, "le" + two);
                truth(i < 1, "lt" + two);
                truth(i == 1, "eq" + two);
            }
        }
    }

    // ---- if any number that is worked out is LARGE, what wanted it is refused as LARGE

    static void part3LargeRefusesWhatWantedIt() {
        for (String contract : new String[] {"pay ada to bob gold " + LARGE + " close", "pay ada into bob gold " + LARGE + " close", "if eq 1 " + LARGE + " close close",
            "let x " + LARGE + " close", "assert lt 1 " + LARGE + " close"}) {
            new Check().keep(0, contract).is(0, "begin", 0, 0, 0L).text("").refuses(-8, "transact", 0, 0L, 0L);
        }
        Check c = new Check().mint("ada", "gold", 5).keep(0, "when [case deposit ada ada gold " + LARGE + " close case notify eq " + LARGE + " 1 close] 9 close").is(0, "begin", 0, 0, 0L);
        c.refusesText(-8, "deposit ada ada gold 1", "transact", 0, 0L, 0L).refusesText(-8, "notify", "transact", 0, 0L, 0L);
        // values of cases are worked out for inputs of their own sort alone, with the same parties and token
        for (String other : new String[] {"deposit bob ada gold 1", "deposit ada bob gold 1", "deposit ada ada oil 1", "choice x ada 1"}) c.refusesText(-5, other, "transact", 0, 0L, 0L);
        // one less is no LARGE number
        c.keep(1, "let x " + LARGE.replace(" 1", " 0") + " when [] 9 close").is(0, "begin", 1, 1, 0L).transact(0, 1, 0, 0, "");
    }
}
