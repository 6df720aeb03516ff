/** Terms, part 6: looking ahead. */
final class Part6Boundaries {
    static final String NINES = "9".repeat(300);
    static final String LARGE = "add " + NINES + " 1";

    /** A search that makes so many tries, and its path. */
    static Check look(Check c, int due, int tries, String path, Object... args) {
        return c.is(due, "look", args).is(tries, "tries").outIs(path);
    }

    static Check fresh(String contract) {
        return new Check().keep(0, contract);
    }

    // ---- from an instance as it is, or from a contract with LEAST TIME 0 and the PARAMETERS that are told

    static void part6ParametersOfTheInstanceOrThoseThatAreTold() {
        Check c = fresh("when [case deposit ada bob gold ?p close] ?t assert false close").set("p", 3).set("t", 7).is(0, "begin", 0, 0, 5L).set("p", 0).set("t", 9);
        look(c, 1, 1, "deposit ada bob gold 0 at 0", 0, true, 1, 400);
        look(c, 0, 2, "", 0, false, 1, 400);
        look(c, 1, 2, "wait 7", 0, false, 16, 400);
        look(c, 1, 2, "wait 9", 0, true, 16, 400);
        // its time is at the LEAST TIME, or beside it
        for (int time = 4; time <= 6; time++) {
            c = fresh("when [case notify true close] ?t when [] 50 assert false close").set("t", time).is(0, "begin", 0, 0, 5L).set("t", 0);
            look(c, 1, time == 6 ? 3 : 2, (time == 6 ? "wait 6" : "wait 5") + " wait 50", 0, false, 16, 400);
            look(c, 1, 2, "wait 0 wait 50", 0, true, 16, 400);
        }
    }

    static void part6StateOfTheInstanceOrNothing() {
        String contract = "let x 1 when [case choice c ada [4 4] when [case notify true assert not chose c ada assert eq use x 0 close] 20 close] 10 close";
        Check c = fresh(contract).is(0, "begin", 0, 0, 3L).transact(0, 0, 5, 6, "choice c ada 4");
        look(c, 1, 1, "notify at 5", 0, false, 16, 400);
        look(c, 1, 3, "wait 0 choice c ada 4 at 0 notify at 0", 0, true, 16, 400);
    }

    // ---- no QUIET one: one try without inputs; a close without accounts: none; a when that is QUIET: its cases

    static void part6CloseWithoutAccountsHasNoTry() {
        look(fresh("close"), 0, 0, "", 0, true, 31, 0);
        look(fresh("close"), 0, 0, "", 0, true, 31, 400);
        Check c = fresh("close").is(0, "begin", 5, 0, 7L);
        look(c, 0, 0, "", 5, false, 31, 0);
        // one with accounts is paid out by the case's own try already
        look(fresh("when [case deposit ada bob gold 1 close] 9 close"), 0, 2, "", 0, true, 31, 400);
    }

    static void part6WhenAtLeastTime() {
        // its time is below, at, above the LEAST TIME
        String contract = "when [case notify true assert false close] T when [] 50 assert false close";
        for (int time = 4; time <= 6; time++) {
            Check c = fresh(contract.replace("T", "" + time)).is(0, "begin", 0, 0, 5L);
            if (time == 6) look(c, 1, 1, "notify at 5", 0, false, 16, 400);
            else look(c, 1, 2, "wait 5 wait 50", 0, false, 16, 400);
        }
        look(fresh(contract.replace("T", "0")), 1, 2, "wait 0 wait 50", 0, true, 16, 400);
        look(fresh(contract.replace("T", "1")), 1, 1, "notify at 0", 0, true, 16, 400);
    }

    static void part6GreatestTimes() {
        Check c = fresh("when [] 1000000000000000 assert false close").is(0, "begin", 0, 0, 999999999999999L).is(0, "begin", 1, 0, 1000000000000000L);
        look(c, 1, 1, "wait 1000000000000000", 0, false, 16, 1);
        look(c, 1, 1, "wait 1000000000000000", 1, false, 16, 1);
        look(c, 1, 1, "wait 1000000000000000", 0, true, 16, 1);
    }

    static void part6ContractThatIsNotQuietHasOneTry() {
        look(fresh("assert false close"), 1, 1, "wait 0", 0, true, 16, 1);
        look(fresh("let x 1 when [case notify true let x 2 close] 5 close"), 1, 2, "wait 0 notify at 0", 0, true, 8, 400);
    }

    // ---- a deposit: its value (none, if it is LARGE); a notify, if its observation is true (none, if it is LARGE)

    static void part6DepositTries() {
        String contract = "when [case deposit ada bob gold V assert false close] 9 close";
        look(fresh(contract.replace("V", "-1")), 1, 1, "deposit ada bob gold -1 at 0", 0, true, 1, 400);
        look(fresh(contract.replace("V", "0")), 1, 1, "deposit ada bob gold 0 at 0", 0, true, 1, 400);
        look(fresh(contract.replace("V", "1")), 0, 2, "", 0, true, 1, 400);
        look(fresh(contract.replace("V", NINES)), 1, 1, "deposit ada bob gold " + NINES + " at 0", 0, true, 16, 400);
        look(fresh(contract.replace("V", LARGE)), 0, 1, "", 0, true, 31, 400);
        look(fresh(contract.replace("V", "neg " + LARGE)), 0, 1, "", 0, true, 31, 400);
    }

    static void part6NotifyTries() {
        String contract = "when [case notify O assert false close] 9 close";
        look(fresh(contract.replace("O", "true")), 1, 1, "notify at 0", 0, true, 16, 400);
        look(fresh(contract.replace("O", "false")), 0, 1, "", 0, true, 31, 400);
        look(fresh(contract.replace("O", "eq start 0")), 1, 1, "notify at 0", 0, true, 16, 400);
        look(fresh(contract.replace("O", "gt end 0")), 0, 1, "", 0, true, 16, 400);
        look(fresh(contract.replace("O", "or true eq 1 " + LARGE)), 0, 1, "", 0, true, 31, 400);
    }

    // ---- a choice: for each pair of bounds the first, and, if that is another one, the second NUMBER

    static void part6ChoiceTries() {
        String contract = "when [case choice c ada [B] close] 9 close";
        look(fresh(contract.replace("B", "5 5")), 0, 2, "", 0, true, 31, 400);
        look(fresh(contract.replace("B", "5 6")), 0, 3, "", 0, true, 31, 400);
        look(fresh(contract.replace("B", "5 9")), 0, 3, "", 0, true, 31, 400);
        look(fresh(contract.replace("B", "5 5 5 5 5 5 5 5")), 0, 5, "", 0, true, 31, 400);
        look(fresh(contract.replace("B", "1 2 1 2 3 3 1 2")), 0, 8, "", 0, true, 31, 400);
        look(fresh(contract.replace("B", "-0 0")), 0, 2, "", 0, true, 31, 400);
        // each bound in its order, none between them
        for (int v = 1; v <= 8; v++) {
            String text = "when [case choice c ada [1 3 4 4 5 8] assert not eq chosen c ada " + v + " close] 9 close";
            int tries = v == 1 ? 1 : v == 3 ? 2 : v == 4 ? 3 : v == 5 ? 4 : v == 8 ? 5 : 0;
            if (tries > 0) look(fresh(text), 1, tries, "choice c ada " + v + " at 0", 0, true, 16, 400);
            else look(fresh(text), 0, 6, "", 0, true, 16, 400);
        }
    }

    static void part6WhenWithoutCasesWaitsAlone() {
        look(fresh("when [] 9 close"), 0, 1, "", 0, true, 31, 400);
        String eight = "case notify true close ".repeat(8);
        look(fresh("when [" + eight + "] 9 assert false close"), 1, 9, "wait 9", 0, true, 16, 400);
        String choices = "case choice c ada [1 2 3 4 5 6 7 8] close ".repeat(8);
        look(fresh("when [" + choices + "] 9 assert false close"), 1, 65, "wait 9", 0, true, 16, 400);
    }

    // ---- what is refused leads nowhere; wallets are not looked at

    static void part6RefusedTriesLeadNowhere() {
        // LARGE, WIDE behind the input; an account that would be LARGE
        look(fresh("when [case notify true assert false let x " + LARGE + " close] 9 close"), 0, 2, "", 0, true, 31, 400);
        for (int n = 60; n <= 61; n++) {
            Check c = fresh("when [case notify true " + "assert false ".repeat(n) + "close] 9 close");
            if (n == 60) look(c, 1, 1, "notify at 0", 0, true, 16, 400);
            else look(c, 0, 2, "", 0, true, 16, 400);
        }
        String twice = "when [case deposit ada bob gold " + NINES + " when [case deposit ada bob gold V assert false close] 8 close] 9 close";
        look(fresh(twice.replace("V", "0")), 1, 2, "deposit ada bob gold " + NINES + " at 0 deposit ada bob gold 0 at 0", 0, true, 16, 400);
        look(fresh(twice.replace("V", "1")), 0, 4, "", 0, true, 16, 400);
        String into = "when [case deposit ada bob gold " + NINES + " when [case deposit eve bob gold 1 pay eve into ada gold 1 assert false close] 8 close] 9 close";
        look(fresh(into), 0, 4, "", 0, true, 16, 400);
        look(fresh(into.replace("into ada", "into bob")), 1, 2, "deposit ada bob gold " + NINES + " at 0 deposit eve bob gold 1 at 0", 0, true, 16, 400);
    }

    static void part6WalletsAreNotLookedAtNorChanged() {
        String contract = "when [case deposit ada bob gold 5 pay ada to eve gold 3 pay ada to zoe gold 9 close] 9 close";
        Check c = fresh(contract);
        look(c, 1, 1, "deposit ada bob gold 5 at 0", 0, true, 4, 400).is(0, "wallets");
        for (int i = 0; i < 60; i++) c.mint("p" + i, "gold", 1);
        look(c, 1, 1, "deposit ada bob gold 5 at 0", 0, true, 4, 400).is(60, "wallets").conserved();
        // nor the instance, payments, warnings, journal
        c.is(0, "begin", 0, 0, 3L);
        java.util.List<String> before = c.all();
        look(c, 1, 1, "deposit ada bob gold 5 at 3", 0, false, 31, 400);
        java.util.List<String> after = c.all();
        after.removeIf(row -> row.startsWith("tries"));
        before.removeIf(row -> row.startsWith("tries"));
        Check.so(after.equals(before), "a look changes nothing");
    }

    // ---- FOUND, if one of its warnings is of a kind that is looked for (bits 0 .. 4 of a mask for kinds 1 .. 5)

    static void part6MaskOfEachKind() {
        String[] contracts = {"when [case deposit ada bob gold 0 close] 9 close", "pay ada to bob gold 0 close", "pay ada to bob gold 1 close", "let x 1 let x 1 close", "assert false close"};
        for (int kind = 1; kind <= 5; kind++) {
            Check c = fresh(contracts[kind - 1]);
            String path = kind == 1 ? "deposit ada bob gold 0 at 0" : "wait 0";
            for (int mask = 1; mask <= 31; mask++) {
                boolean found = (mask >> kind - 1 & 1) == 1;
                look(c, found ? 1 : 0, found || kind > 1 ? 1 : 2, found ? path : "", 0, true, mask, 400);
            }
        }
        // any of its warnings, not the first alone
        look(fresh("assert false pay ada to bob gold 0 close"), 1, 1, "wait 0", 0, true, 2, 400);
    }

    // ---- FUEL: each try takes 1; the search ends when there is none for it

    static void part6FuelAtWhatIsNeeded() {
        String contract = "when [case notify true close case notify false close case choice c ada [1 2] when [] 5 close] 9 when [] 12 assert false close";
        Check c = fresh(contract);
        // notify, 1, wait 5, 2, wait 5, wait 9, wait 12: seven tries
        for (int fuel = 0; fuel <= 6; fuel++) look(c, 2, fuel, "", 0, true, 16, fuel);
        look(c, 1, 7, "wait 9 wait 12", 0, true, 16, 7);
        look(c, 1, 7, "wait 9 wait 12", 0, true, 16, 8);
        look(c, 2, 6, "", 0, true, 15, 6);
        look(c, 0, 7, "", 0, true, 15, 7);
        look(c, 0, 7, "", 0, true, 15, 8);
    }

    static void part6RefusedTriesTakeFuel() {
        Check c = fresh("when [case notify true let x " + LARGE + " close] 9 assert false close");
        look(c, 2, 1, "", 0, true, 16, 1);
        look(c, 1, 2, "wait 9", 0, true, 16, 2);
        // a case that has no try takes none
        c = fresh("when [case notify false close case deposit ada bob gold " + LARGE + " close] 9 assert false close");
        look(c, 2, 0, "", 0, true, 16, 0);
        look(c, 1, 1, "wait 9", 0, true, 16, 1);
    }

    static void part6Fuel400() {
        // each of eight cases: itself, eight more and a wait: 80 tries; then the wait to 9
        String one = "case choice c ada [1 1] ";
        String inner = "when [" + (one + "close ").repeat(8) + "] 5 close ";
        String text = "when [" + (one + inner).repeat(8) + "] 9 assert false close";
        Check c = fresh(text);
        look(c, 2, 80, "", 0, true, 16, 80);
        look(c, 1, 81, "wait 9", 0, true, 16, 81);
        String pairs = "case choice c ada [1 2 3 4 5 6 7 8] ";
        // eight tries from each of eight states, four deep: more than 400
        look(fresh(("when [" + pairs).repeat(4) + "close" + "] 9 close".repeat(4)), 2, 400, "", 0, true, 31, 400);
    }

    // ---- THE PATH is the tries that led there, that one among them

    static void part6PathIsCutAtTheEndOfTheOut() {
        // each step has 330 bytes and more: 49 of them are 16384 and beside it
        for (int more = 0; more < 3; more++) {
            String name = "a".repeat(6 + more);
            StringBuilder head = new StringBuilder("let big neg " + NINES + " ");
            StringBuilder path = new StringBuilder("wait 0");
            for (int i = 0; i < 49; i++) {
                head.append("when[case deposit ").append(name).append(" b c use big ");
                path.append(" deposit ").append(name).append(" b c -").append(NINES).append(" at 0");
            }
            String due = path.length() > 16384 ? path.substring(0, 16384) : path.toString();
            look(fresh(head + "assert false close" + "]9 close".repeat(49)), 1, 50, due, 0, true, 16, 400);
        }
        // exactly 16384, one less, one more
        for (int bytes = 16383; bytes <= 16385; bytes++) {
            StringBuilder path = new StringBuilder();
            StringBuilder head = new StringBuilder("let big neg " + NINES + " ");
            path.append("wait 0");
            for (int i = 0; i < 48; i++) {
                head.append("when[case deposit abcdefgh abcdefgh b use big ");
                path.append(" deposit abcdefgh abcdefgh b -").append(NINES).append(" at 0");
            }
            // the last step's number fills up
            String step = " deposit a b c -";
            int digits = bytes - path.length() - step.length() - 5;
            path.append(step).append("9".repeat(digits)).append(" at 0");
            head.append("when[case deposit a b c -").append("9".repeat(digits)).append(' ');
            look(fresh(head + "assert false close" + "]9 close".repeat(49)), 1, 50, path.substring(0, Math.min(bytes, 16384)), 0, true, 16, 400);
        }
    }

    static void part6DeepestPath() {
        StringBuilder whens = new StringBuilder();
        StringBuilder path = new StringBuilder("wait 0");
        for (int i = 1; i <= 98; i++) {
            whens.append("when [] ").append(i).append(' ');
            path.append(" wait ").append(i);
        }
        look(fresh("let x 1 " + whens + "let x 2 close"), 1, 99, path.toString(), 0, true, 8, 400);
        look(fresh("let x 1 " + whens + "let x 2 close"), 2, 98, "", 0, true, 8, 98);
        look(fresh("let x 1 " + whens + "when [] 99 close"), 0, 100, "", 0, true, 31, 100);
    }
}
