/** Promises 21 to 24: count, payment, amount, warning. */
final class Promises21To24Boundaries {
    static final String NINES = "9".repeat(300);

    /** A transaction of instance 0 has 60 payments, one of instance 1 has 60 warnings; the last of each is another one. */
    static Check most() {
        String pays = "pay ada to bob gold 1 ".repeat(59) + "pay ada into eve gold 2 ";
        String warns = "pay zoe to bob oil 3 ".repeat(30) + "let x 1 ".repeat(2) + "pay zoe into bob oil -4 " + "assert false ".repeat(27) + "pay zoe to bob oil " + NINES + " ";
        Check c = new Check().mint("ada", "gold", 1000).keep(0, "when [case deposit ada ada gold 900 when [case notify true " + pays + "when [] 9 close] 9 close] 9 close");
        return c.keep(1, warns + "when [] 9 close").is(0, "begin", 0, 0, 0L).is(0, "begin", 1, 1, 0L);
    }

    static void promise21CountOf0And1() {
        Check c = new Check().is(0, "count", 0).is(0, "count", 1);
        for (int what : new int[] {-1, 2, Integer.MIN_VALUE, Integer.MAX_VALUE}) c.refuses(Check.ARGUMENT, "count", what);
    }

    static void promise21CountsUpTo60() {
        Check c = most().transact(0, 0, 0, 0, "deposit ada ada gold 900 notify").is(60, "count", 0).is(0, "count", 1).transact(0, 1, 0, 0, "").is(0, "count", 0).is(60, "count", 1);
        // one that is DONE without either
        c.transact(0, 1, 9, 9, "").is(0, "count", 0).is(0, "count", 1).refuses(Check.INDEX, "payment", 0, 0).refuses(Check.INDEX, "warning", 0, 0);
    }

    static void promise22PaymentsBesideTheLast() {
        Check c = most();
        c.refuses(Check.INDEX, "payment", 0, 0).transact(0, 0, 0, 0, "deposit ada ada gold 900 notify").payment(0, 0, "ada", "bob", "gold", "1").payment(58, 0, "ada", "bob", "gold", "1");
        c.payment(59, 1, "ada", "eve", "gold", "2");
        for (int none : new int[] {-1, 60, 61, Integer.MIN_VALUE, Integer.MAX_VALUE}) c.refuses(Check.INDEX, "payment", none, 0).refuses(Check.INDEX, "payment", none, 4);
        for (int what : new int[] {-1, 4, Integer.MIN_VALUE, Integer.MAX_VALUE}) c.refuses(Check.ARGUMENT, "payment", 0, what).refuses(Check.ARGUMENT, "payment", 59, what);
    }

    static void promise23AmountsBesideTheLast() {
        Check c = most().refuses(Check.INDEX, "amount", 0, false).refuses(Check.INDEX, "amount", 0, true).transact(0, 0, 0, 0, "deposit ada ada gold 900 notify");
        c.writes("1", "amount", 0, false).writes("2", "amount", 59, false).refuses(Check.INDEX, "amount", 0, true);
        for (int none : new int[] {-1, 60, Integer.MIN_VALUE, Integer.MAX_VALUE}) c.refuses(Check.INDEX, "amount", none, false);
        c.transact(0, 1, 0, 0, "").writes("3", "amount", 0, true).writes(NINES, "amount", 59, true).refuses(Check.INDEX, "amount", 0, false);
        for (int none : new int[] {-1, 60, Integer.MIN_VALUE, Integer.MAX_VALUE}) c.refuses(Check.INDEX, "amount", none, true);
    }

    static void promise23NothingForKind5() {
        Check c = most().transact(0, 1, 0, 0, "").is(5, "warning", 32, 0).text("abc").is(3, "show").is(0, "amount", 32, true).is(0, "size").is(0, "word", 0);
        // the kinds before and behind it
        c.is(2, "warning", 31, 0).writes("-4", "amount", 31, true).is(5, "warning", 58, 0).writes("", "amount", 58, true).is(3, "warning", 59, 0);
    }

    static void promise24WarningsBesideTheLast() {
        Check c = most().refuses(Check.INDEX, "warning", 0, 0).transact(0, 1, 0, 0, "");
        c.warning(0, 3, "zoe", "bob", "oil", "3").warning(29, 3, "zoe", "bob", "oil", "3").warning(30, 4, "x", "", "", "1").warning(31, 2, "zoe", "bob", "oil", "-4");
        c.warning(32, 5, "", "", "", "").warning(58, 5, "", "", "", "").warning(59, 3, "zoe", "bob", "oil", NINES);
        for (int none : new int[] {-1, 60, 61, Integer.MIN_VALUE, Integer.MAX_VALUE}) c.refuses(Check.INDEX, "warning", none, 0).refuses(Check.INDEX, "warning", none, 4);
        for (int what : new int[] {-1, 4, Integer.MIN_VALUE, Integer.MAX_VALUE}) c.refuses(Check.ARGUMENT, "warning", 0, what).refuses(Check.ARGUMENT, "warning", 59, what);
    }

    static void promise24NamesOfEachKind() {
        Check c = new Check().mint("ada", "gold", 9).keep(0, "when [case deposit bob ada gold 0 pay bob to eve gold 0 pay bob into eve gold 1 let x 5 let x 6 assert false when [] 9 close] 9 close");
        c.is(0, "begin", 0, 0, 0L).transact(0, 0, 0, 0, "deposit bob ada gold 0").is(5, "count", 1).warning(0, 1, "bob", "ada", "gold", "0").warning(1, 2, "bob", "eve", "gold", "0");
        c.warning(2, 3, "bob", "eve", "gold", "1").warning(3, 4, "x", "", "", "5").warning(4, 5, "", "", "", "");
    }
}
