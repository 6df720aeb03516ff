/** A platform for promises of money. */
public final class PromisePlatform {
    public static final int NONE = -1;

    // Keywords, in the order of their numbers below; those that begin a contract, a value, an
    // observation or an input stand together, so that a range tells what a token may begin.
    private static final String KEYWORDS =
            "close pay if when let assert held neg add sub mul div chosen start end use cond and or not chose ge gt le lt eq true false deposit choice notify case to into ";
    private static final int CLOSE = 0;
    private static final int PAY = 1;
    private static final int IF = 2;
    private static final int WHEN = 3;
    private static final int LET = 4;
    private static final int ASSERT = 5;
    private static final int HELD = 6;
    private static final int NEG = 7;
    private static final int ADD = 8;
    private static final int SUB = 9;
    private static final int MUL = 10;
    private static final int DIV = 11;
    private static final int CHOSEN = 12;
    private static final int START = 13;
    private static final int END = 14;
    private static final int USE = 15;
    private static final int COND = 16;
    private static final int AND = 17;
    private static final int OR = 18;
    private static final int NOT = 19;
    private static final int CHOSE = 20;
    private static final int GE = 21;
    private static final int GT = 22;
    private static final int LE = 23;
    private static final int LT = 24;
    private static final int EQ = 25;
    private static final int TRUE = 26;
    private static final int FALSE = 27;
    private static final int DEPOSIT = 28;
    private static final int CHOICE = 29;
    private static final int NOTIFY = 30;
    private static final int CASE = 31;
    private static final int TO = 32;
    private static final int INTO = 33;
    private static final int WORDS = 34;
    private static final int NUMBER = 34;
    private static final int PARAMETER = 35;
    private static final int NAME = 36;
    private static final int OPEN = 37;
    private static final int SHUT = 38;
    private static final int LEFT = 39;
    private static final int RIGHT = 40;
    private static final int ENDED = 41;
    private static final int BAD_TOKEN = -1;
    private static final int LONG_NUMBER = -2;
    private static final long WAIT_WORD = 0x77616974L;
    private static final long AT_WORD = 0x6174L;

    private static final int BYTES = 16384;
    private static final int PLACES = 16;
    private static final int MOST_NODES = 4000;
    private static final int TEXT_NODES = 1000;
    private static final int DEEPEST = 100;
    private static final int MOST_CASES = 8;
    private static final int MOST_PAIRS = 4;
    private static final int ENTRIES = 40;
    private static final int INPUTS = 40;
    private static final int NOTES = 60;
    private static final int WALLETS = 60;
    private static final int PARAMETERS = 20;
    private static final int MOST_FUEL = 400;
    private static final int LEVELS = 128;
    private static final long LAST_TIME = 1000000000000000L;

    // A NUMBER's limbs have nine digits; 300 digits are 33 limbs and three digits of one more.
    private static final int BASE = 1000000000;
    private static final int LIMB_DIGITS = 9;
    private static final int LIMBS = 34;
    private static final int TOP_LIMB = 1000;
    private static final int DIGITS = 300;
    private static final int ROOM_HALF = 36;

    private static final int FAULTY = -1;
    private static final int NO_INTERVAL = -2;
    private static final int PAST = -3;
    private static final int AMBIGUOUS = -4;
    private static final int NOT_TAKEN = -5;
    private static final int USELESS = -6;
    private static final int POOR = -7;
    private static final int LARGE = -8;
    private static final int WIDE = -9;
    private static final int FULL = -10;
    private static final int LACKING = -11;
    // What a call that is done again must not throw is told by these instead.
    private static final int NO_PLACE = -101;
    private static final int NO_ARGUMENT = -102;
    private static final int NO_STATE = -103;

    private static final int KEEP_RECORD = 1;
    private static final int DROP_RECORD = 2;
    private static final int BEGIN_RECORD = 3;
    private static final int END_RECORD = 4;
    private static final int MINT_RECORD = 5;
    private static final int TRANSACT_RECORD = 6;
    private static final int PARAMETER_RECORD = 7;
    private static final int FORGET_RECORD = 8;
    private static final int[] RECORD_NUMBERS = {0, 1, 1, 3, 1, 2, 3, 1, 0};
    private static final int BARE_RECORD = 7;

    private final byte[] tape = new byte[BYTES];
    private int taped;
    private final Reader reader = new Reader();
    private final Writer out = new Writer(reader.words);
    private final Pool pool = new Pool();
    private final Parser parser = new Parser(pool, reader);
    private final int[] roots = new int[PLACES];
    private final State[] instances = new State[PLACES];
    private final Book parameters = new Book(PARAMETERS);
    private final Book purses = new Book(WALLETS);
    private final Book minted = new Book(WALLETS);
    private final Row inputs = new Row(INPUTS);
    private final Row payments = new Row(NOTES);
    private final Row warnings = new Row(NOTES);
    private final State draft = new State(0);
    private final Machine machine = new Machine(pool);
    private final Search search = new Search(pool, machine);
    private final Journal journal = new Journal();
    private final Num sum = new Num();
    /** Whether what is done is a record's, which must not be written once more. */
    private boolean again;

    public PromisePlatform() {
        for (int i = 0; i < PLACES; i++) {
            roots[i] = NONE;
            instances[i] = new State(PARAMETERS);
        }
    }

    // ---- tape, out

    public int feed(int a, int b, int c, int d, int e) throws IllegalStateException, IllegalArgumentException {
        needPower();
        if (taped + 20 > BYTES) {
            throw new IllegalArgumentException("the tape is full");
        }
        layWord(a);
        layWord(b);
        layWord(c);
        layWord(d);
        layWord(e);
        return taped;
    }

    public int trim(int n) throws IllegalStateException, IllegalArgumentException {
        needPower();
        if (n < 0) {
            throw new IllegalArgumentException("below 0 bytes");
        }
        taped = Math.min(taped, n);
        return taped;
    }

    public int size() throws IllegalStateException {
        needPower();
        return out.used;
    }

    public long word(int i) throws IllegalStateException {
        needPower();
        long word = 0;
        if (i < 0 || i >= BYTES / 8) {
            return word;
        }
        for (int at = 8 * i; at < 8 * i + 8; at++) {
            word = (word << 8) | (at < out.used ? out.bytes[at] & 255 : 0);
        }
        return word;
    }

    public int show() throws IllegalStateException {
        needPower();
        out.clear();
        for (int i = 0; i < taped; i++) {
            out.put(tape[i]);
        }
        return out.used;
    }

    private void layWord(int word) {
        for (int shift = 24; shift >= 0 && taped < BYTES; shift -= 8) {
            tape[taped] = (byte) (word >>> shift);
            taped++;
        }
    }

    // ---- contracts

    public int keep(int k) throws IndexOutOfBoundsException, IllegalStateException {
        return answer(keepText(k, takeTape()));
    }

    public int fault(boolean place) {
        return place ? reader.faultPlace : reader.latestFault;
    }

    public int drop(int k) throws IndexOutOfBoundsException, IllegalStateException {
        needPower();
        return answer(dropContract(k));
    }

    public int print(int k) throws IndexOutOfBoundsException, IllegalStateException {
        needPower();
        needPlace(k, PLACES);
        needState(roots[k] != NONE);
        out.clear();
        out.contract(pool, roots[k]);
        return out.used;
    }

    public long about(int k, int what)
            throws IndexOutOfBoundsException, IllegalArgumentException, IllegalStateException {
        needPower();
        needPlace(k, PLACES);
        needArgument(what >= 0 && what <= 4);
        needState(roots[k] != NONE);
        switch (what) {
            case 0: return pool.latestTime(roots[k]);
            case 1: return pool.behind[roots[k]] - roots[k];
            case 2: return pool.parametersOf(roots[k]);
            case 3: return pool.nestedWhens(roots[k]);
            default: return pool.accountsOf(roots[k]);
        }
    }

    private int keepText(long k, int length) {
        if (k < 0 || k >= PLACES) {
            return NO_PLACE;
        }
        if (roots[(int) k] != NONE) {
            return NO_STATE;
        }
        if (reader.isFaulty(parser.parse(tape, length))) {
            return FAULTY;
        }
        if (pool.used + parser.nodes > MOST_NODES) {
            return WIDE;
        }
        int code = enter(KEEP_RECORD, k, 0, 0, length);
        if (code != 0) {
            return code;
        }
        roots[(int) k] = pool.used;
        parser.accept();
        return parser.nodes;
    }

    private int dropContract(long k) {
        if (k < 0 || k >= PLACES) {
            return NO_PLACE;
        }
        if (roots[(int) k] == NONE) {
            return NO_STATE;
        }
        int code = enter(DROP_RECORD, k, 0, 0, 0);
        if (code == 0) {
            roots[(int) k] = NONE;
        }
        return code;
    }

    // ---- parameters, instances

    public int parameter(long name) throws IllegalArgumentException, IllegalStateException {
        return answer(parameterText(name, takeTape()));
    }

    public int forget() throws IllegalStateException {
        needPower();
        return answer(forgetParameters());
    }

    public int begin(int i, int k, long time)
            throws IndexOutOfBoundsException, IllegalArgumentException, IllegalStateException {
        needPower();
        return answer(beginInstance(i, k, time));
    }

    public int end(int i) throws IndexOutOfBoundsException, IllegalStateException {
        needPower();
        return answer(endInstance(i));
    }

    public int transact(int i, long start, long end) throws IndexOutOfBoundsException, IllegalStateException {
        return answer(transactText(i, start, end, takeTape()));
    }

    public int rest(int i) throws IndexOutOfBoundsException, IllegalStateException {
        State instance = begun(i);
        out.clear();
        out.contract(pool, instance.node);
        return out.used;
    }

    public long state(int i, int what)
            throws IndexOutOfBoundsException, IllegalArgumentException, IllegalStateException {
        needPower();
        needPlace(i, PLACES);
        needArgument(what >= 0 && what <= 5);
        State instance = begun(i);
        switch (what) {
            case 0: return instance.least;
            case 5: return isOver(instance) ? 1 : 0;
            default: return instance.book(what).used;
        }
    }

    public int entry(int i, int what, int e)
            throws IndexOutOfBoundsException, IllegalArgumentException, IllegalStateException {
        Book book = bookWith(i, what, e);
        return tell(book.nums[e]);
    }

    public long name(int i, int what, int e, boolean second)
            throws IndexOutOfBoundsException, IllegalArgumentException, IllegalStateException {
        Book book = bookWith(i, what, e);
        return second ? book.second[e] : book.first[e];
    }

    private Book bookWith(int i, int what, int e) {
        needPower();
        needPlace(i, PLACES);
        needArgument(what >= 1 && what <= 4);
        Book book = begun(i).book(what);
        needPlace(e, book.used);
        return book;
    }

    private State begun(int i) {
        needPower();
        needPlace(i, PLACES);
        needState(instances[i].begun);
        return instances[i];
    }

    private boolean isOver(State instance) {
        return pool.kind[instance.node] == CLOSE && instance.accounts.used == 0;
    }

    private int parameterText(long name, int length) {
        if (!reader.isName(name)) {
            return NO_ARGUMENT;
        }
        if (reader.isFaulty(reader.numberText(tape, length))) {
            return FAULTY;
        }
        if (parameters.find(name, 0) < 0 && parameters.used >= PARAMETERS) {
            return WIDE;
        }
        int code = enter(PARAMETER_RECORD, name, 0, 0, length);
        if (code != 0) {
            return code;
        }
        parameters.put(name, 0, reader.number);
        return parameters.used;
    }

    private int forgetParameters() {
        int code = enter(FORGET_RECORD, 0, 0, 0, 0);
        if (code != 0) {
            return code;
        }
        int had = parameters.used;
        parameters.used = 0;
        return had;
    }

    private int beginInstance(long i, long k, long time) {
        if (i < 0 || i >= PLACES || k < 0 || k >= PLACES) {
            return NO_PLACE;
        }
        if (time < 0 || time > LAST_TIME) {
            return NO_ARGUMENT;
        }
        State instance = instances[(int) i];
        int root = roots[(int) k];
        if (instance.begun || root == NONE) {
            return NO_STATE;
        }
        if (pool.lacks(root, parameters)) {
            return LACKING;
        }
        int code = enter(BEGIN_RECORD, i, k, time, 0);
        if (code == 0) {
            instance.restart(root, time);
            instance.params.copy(parameters);
        }
        return code;
    }

    private int endInstance(long i) {
        if (i < 0 || i >= PLACES) {
            return NO_PLACE;
        }
        State instance = instances[(int) i];
        if (!instance.begun || !isOver(instance)) {
            return NO_STATE;
        }
        int code = enter(END_RECORD, i, 0, 0, 0);
        if (code == 0) {
            instance.begun = false;
        }
        return code;
    }

    private int transactText(long i, long start, long end, int length) {
        if (i < 0 || i >= PLACES) {
            return NO_PLACE;
        }
        State instance = instances[(int) i];
        if (!instance.begun) {
            return NO_STATE;
        }
        if (reader.isFaulty(reader.inputsText(tape, length, inputs))) {
            return FAULTY;
        }
        draft.copy(instance);
        machine.wallets.copy(purses);
        machine.aim(draft, instance.params, false);
        int code = machine.run(start, end, inputs, 0, inputs.used);
        if (code == 0) {
            code = enter(TRANSACT_RECORD, i, start, end, length);
        }
        if (code == 0) {
            instance.copy(draft);
            purses.copy(machine.wallets);
            payments.copy(machine.payments);
            warnings.copy(machine.warnings);
        }
        return code;
    }

    // ---- what the latest transaction was

    public int count(int what) throws IllegalArgumentException, IllegalStateException {
        needPower();
        needArgument(what == 0 || what == 1);
        return what == 0 ? payments.used : warnings.used;
    }

    public long payment(int p, int what)
            throws IndexOutOfBoundsException, IllegalArgumentException, IllegalStateException {
        return noted(payments, p, what);
    }

    public int amount(int p, boolean warning) throws IndexOutOfBoundsException, IllegalStateException {
        needPower();
        Row row = warning ? warnings : payments;
        needPlace(p, row.used);
        if (warning && row.kind[p] == 5) {
            out.clear();
            return 0;
        }
        return tell(row.nums[p]);
    }

    public long warning(int w, int what)
            throws IndexOutOfBoundsException, IllegalArgumentException, IllegalStateException {
        return noted(warnings, w, what);
    }

    private long noted(Row row, int at, int what) {
        needPower();
        needPlace(at, row.used);
        needArgument(what >= 0 && what <= 3);
        switch (what) {
            case 0: return row.kind[at];
            case 1: return row.first[at];
            case 2: return row.second[at];
            default: return row.third[at];
        }
    }

    // ---- wallets

    public int mint(long party, long token) throws IllegalArgumentException, IllegalStateException {
        return answer(mintText(party, token, takeTape()));
    }

    public int wallet(long party, long token) throws IllegalArgumentException, IllegalStateException {
        needPower();
        needArgument(reader.isName(party) && reader.isName(token));
        return tell(purses.held(party, token));
    }

    public int total(long token, int what) throws IllegalArgumentException, IllegalStateException {
        needPower();
        needArgument(reader.isName(token) && what >= 0 && what <= 3);
        if (what == 3) {
            return tell(minted.held(token, 0));
        }
        sum.clear();
        if (what != 1) {
            purses.addAll(token, sum);
        }
        for (int i = 0; i < PLACES && what != 0; i++) {
            if (instances[i].begun) {
                instances[i].accounts.addAll(token, sum);
            }
        }
        return tell(sum);
    }

    public int wallets() throws IllegalStateException {
        needPower();
        return purses.used;
    }

    private int mintText(long party, long token, int length) {
        if (!reader.isName(party) || !reader.isName(token)) {
            return NO_ARGUMENT;
        }
        if (reader.isFaulty(reader.numberText(tape, length))) {
            return FAULTY;
        }
        if (reader.number.sign <= 0) {
            return NOT_TAKEN;
        }
        // No wallet has more than what was minted of its token, so that this sum is the greater one.
        sum.copy(minted.held(token, 0));
        if (!sum.grow(reader.number)) {
            return LARGE;
        }
        boolean oneMoreWallet = purses.find(party, token) < 0 && purses.used >= WALLETS;
        boolean oneMoreToken = minted.find(token, 0) < 0 && minted.used >= WALLETS;
        if (oneMoreWallet || oneMoreToken) {
            return WIDE;
        }
        int code = enter(MINT_RECORD, party, token, 0, length);
        if (code == 0) {
            purses.credit(party, token, reader.number);
            minted.credit(token, 0, reader.number);
        }
        return code;
    }

    // ---- looking ahead

    public int look(int k, boolean fresh, int mask, int fuel)
            throws IndexOutOfBoundsException, IllegalArgumentException, IllegalStateException {
        needPower();
        needPlace(k, PLACES);
        needArgument(mask >= 1 && mask <= 31 && fuel >= 0 && fuel <= MOST_FUEL);
        needState(fresh ? roots[k] != NONE : instances[k].begun);
        if (fresh && pool.lacks(roots[k], parameters)) {
            return LACKING;
        }
        if (fresh) {
            draft.restart(roots[k], 0);
        } else {
            draft.copy(instances[k]);
        }
        int found = search.run(draft, fresh ? parameters : instances[k].params, mask, fuel);
        out.clear();
        if (found == 1) {
            search.tellPath(out);
        }
        return found;
    }

    public int tries() throws IllegalStateException {
        needPower();
        return search.made;
    }

    // ---- the journal

    public void fuse(int bytes) throws IllegalArgumentException, IllegalStateException {
        needPower();
        needArgument(bytes >= NONE);
        journal.left = bytes;
    }

    public int peek(int i) throws IndexOutOfBoundsException {
        needPlace(i, BYTES);
        return journal.disk[i] & 255;
    }

    public int poke(int i, int b) throws IndexOutOfBoundsException, IllegalArgumentException, IllegalStateException {
        needPlace(i, BYTES);
        needArgument(b >= 0 && b <= 255);
        needState(journal.dark);
        int was = journal.disk[i] & 255;
        journal.disk[i] = (byte) b;
        return was;
    }

    public void cut() throws IllegalStateException {
        needPower();
        journal.dark = true;
    }

    public int recover() {
        takeAllAway();
        again = true;
        int length = journal.soundLength();
        for (int n = 0; n < BYTES && length > 0; n++) {
            int textLength = journal.textInto(tape);
            long a = journal.numberAt(0);
            long b = journal.numberAt(1);
            long c = journal.numberAt(2);
            int code;
            switch (journal.kindHere()) {
                case KEEP_RECORD: code = keepText(a, textLength); break;
                case DROP_RECORD: code = dropContract(a); break;
                case BEGIN_RECORD: code = beginInstance(a, b, c); break;
                case END_RECORD: code = endInstance(a); break;
                case MINT_RECORD: code = mintText(a, b, textLength); break;
                case TRANSACT_RECORD: code = transactText(a, b, c, textLength); break;
                case PARAMETER_RECORD: code = parameterText(a, textLength); break;
                default: code = forgetParameters(); break;
            }
            if (code < 0) {
                break;
            }
            journal.pass(length);
            length = journal.soundLength();
        }
        again = false;
        reader.forgetFault();
        return journal.records;
    }

    public int told(int what) throws IllegalArgumentException {
        needArgument(what >= 0 && what <= 7);
        switch (what) {
            case 0: return contractsKept();
            case 1: return instancesBegun();
            case 2: return taped;
            case 3: return journal.used;
            case 4: return journal.records;
            case 5: return pool.used;
            case 6: return parameters.used;
            default: return journal.dark ? 1 : 0;
        }
    }

    private int contractsKept() {
        int kept = 0;
        for (int k = 0; k < PLACES; k++) {
            kept += roots[k] != NONE ? 1 : 0;
        }
        return kept;
    }

    private int instancesBegun() {
        int begun = 0;
        for (int i = 0; i < PLACES; i++) {
            begun += instances[i].begun ? 1 : 0;
        }
        return begun;
    }

    private void takeAllAway() {
        taped = 0;
        out.clear();
        pool.clear();
        for (int i = 0; i < PLACES; i++) {
            roots[i] = NONE;
            instances[i].begun = false;
        }
        parameters.used = 0;
        purses.used = 0;
        minted.used = 0;
        payments.used = 0;
        warnings.used = 0;
        search.made = 0;
        journal.rewind();
    }

    /** Writes a record of what is about to be done, unless it is a record that is done again. */
    private int enter(int kind, long a, long b, long c, int textLength) {
        if (again) {
            return 0;
        }
        if (!journal.hasRoom(kind, textLength)) {
            return FULL;
        }
        return journal.write(kind, a, b, c, tape, textLength) ? 0 : NO_STATE;
    }

    // ---- what all calls share

    private int takeTape() {
        needPower();
        int length = taped;
        taped = 0;
        return length;
    }

    private int tell(Num number) {
        out.clear();
        out.number(number);
        return out.used;
    }

    private int answer(int code) {
        needState(code != NO_STATE);
        needArgument(code != NO_ARGUMENT);
        needPlace(code == NO_PLACE ? NONE : 0, 1);
        return code;
    }

    private void needPower() {
        if (journal.dark) {
            throw new IllegalStateException("the power is cut");
        }
    }

    private static void needPlace(int at, int places) {
        if (at < 0 || at >= places) {
            throw new IndexOutOfBoundsException("there is none such");
        }
    }

    private static void needArgument(boolean right) {
        if (!right) {
            throw new IllegalArgumentException("it is none that is told");
        }
    }

    private static void needState(boolean right) {
        if (!right) {
            throw new IllegalStateException("it is not so");
        }
    }

    /**
     * What follows a keyword, a sign for each: 1 2 3 names, d to or into, c v o a contract, a value,
     * an observation, k cases, t a time, b bounds, a an action. Reading and printing share it.
     */
    private static String shape(int kind) {
        switch (kind) {
            case PAY: return "1d23vc";
            case IF: return "occ";
            case WHEN: return "[ktc";
            case LET: return "1vc";
            case ASSERT: return "oc";
            case HELD: case CHOSEN: case CHOSE: return "12";
            case NEG: return "v";
            case USE: return "1";
            case COND: return "ovv";
            case AND: case OR: return "oo";
            case NOT: return "o";
            case ADD: case SUB: case MUL: case DIV: return "vv";
            case GE: case GT: case LE: case LT: case EQ: return "vv";
            case CASE: return "a";
            case DEPOSIT: return "123vc";
            case CHOICE: return "12[bc";
            case NOTIFY: return "oc";
            default: return "";
        }
    }

    /** A whole number: limbs of nine digits, the lowest first, the highest one not 0. */
    private static final class Num {
        int sign;
        int len;
        final int[] limb = new int[LIMBS];

        void clear() {
            sign = 0;
            len = 0;
        }

        void copy(Num other) {
            sign = other.sign;
            len = other.len;
            for (int i = 0; i < len; i++) {
                limb[i] = other.limb[i];
            }
        }

        void setTime(long time) {
            clear();
            for (long left = time; left > 0 && len < LIMBS; left /= BASE) {
                limb[len] = (int) (left % BASE);
                len++;
            }
            sign = len == 0 ? 0 : 1;
        }

        /** The number as a time, or NONE. */
        long asTime() {
            if (sign < 0 || len > 2) {
                return NONE;
            }
            long time = 0;
            for (int i = len - 1; i >= 0; i--) {
                time = time * BASE + limb[i];
            }
            return time <= LAST_TIME ? time : NONE;
        }

        /** Digits of a text, without needless zeros. */
        void setDigits(byte[] text, int from, int to, boolean minus) {
            len = 0;
            for (int high = to; high > from && len < LIMBS; high -= LIMB_DIGITS) {
                int value = 0;
                for (int i = Math.max(from, high - LIMB_DIGITS); i < high; i++) {
                    value = value * 10 + (text[i] - '0');
                }
                limb[len] = value;
                len++;
            }
            sign = len == 0 ? 0 : minus ? -1 : 1;
        }

        int compare(Num other) {
            if (sign != other.sign) {
                return sign < other.sign ? -1 : 1;
            }
            return sign * compareSize(other);
        }

        private int compareSize(Num other) {
            if (len != other.len) {
                return len < other.len ? -1 : 1;
            }
            for (int i = len - 1; i >= 0; i--) {
                if (limb[i] != other.limb[i]) {
                    return limb[i] < other.limb[i] ? -1 : 1;
                }
            }
            return 0;
        }

        /** Adds the other one's size to this one's; false, and 0, if that is LARGE. */
        boolean grow(Num other) {
            int most = Math.max(len, other.len);
            int carry = 0;
            for (int i = 0; i < most; i++) {
                int sum = carry + (i < len ? limb[i] : 0) + (i < other.len ? other.limb[i] : 0);
                carry = sum >= BASE ? 1 : 0;
                limb[i] = sum - carry * BASE;
            }
            len = most;
            if (carry > 0 && len < LIMBS) {
                limb[len] = carry;
                len++;
            }
            sign = sign == 0 ? other.sign : sign;
            return settle();
        }

        /** Becomes the difference of two sizes, the first one not below the second; the sign stays. */
        void shrink(Num big, Num small) {
            int most = big.len;
            int lent = 0;
            for (int i = 0; i < most; i++) {
                int left = big.limb[i] - lent - (i < small.len ? small.limb[i] : 0);
                lent = left < 0 ? 1 : 0;
                limb[i] = left + lent * BASE;
            }
            len = most;
            settle();
        }

        private boolean settle() {
            while (len > 0 && limb[len - 1] == 0) {
                len--;
            }
            boolean fits = len < LIMBS || limb[LIMBS - 1] < TOP_LIMB;
            len = fits ? len : 0;
            sign = len == 0 ? 0 : sign;
            return fits;
        }

        /** Adds the other one times 1 or -1; false if that is LARGE. */
        boolean add(Num other, int factor) {
            int otherSign = other.sign * factor;
            if (otherSign == 0) {
                return true;
            }
            if (sign == 0 || sign == otherSign) {
                sign = otherSign;
                return grow(other);
            }
            if (compareSize(other) >= 0) {
                shrink(this, other);
            } else {
                sign = otherSign;
                shrink(other, this);
            }
            return true;
        }

        /** Becomes the product; false if that is LARGE. */
        boolean multiply(Num other, long[] room) {
            int most = len + other.len;
            if (sign == 0 || other.sign == 0 || most > LIMBS + 1) {
                boolean isZero = sign == 0 || other.sign == 0;
                clear();
                return isZero;
            }
            for (int i = 0; i < most; i++) {
                room[i] = 0;
            }
            for (int i = 0; i < len; i++) {
                long carry = 0;
                for (int j = 0; j < other.len; j++) {
                    long sum = room[i + j] + (long) limb[i] * other.limb[j] + carry;
                    room[i + j] = sum % BASE;
                    carry = sum / BASE;
                }
                room[i + other.len] = carry;
            }
            if (most > LIMBS && room[LIMBS] != 0) {
                clear();
                return false;
            }
            sign = sign * other.sign;
            len = Math.min(most, LIMBS);
            for (int i = 0; i < len; i++) {
                limb[i] = (int) room[i];
            }
            return settle();
        }

        /** Becomes the quotient, toward 0; 0 by 0. */
        void divide(Num other, long[] room) {
            if (other.sign == 0 || compareSize(other) < 0) {
                clear();
                return;
            }
            sign = sign * other.sign;
            if (other.len == 1) {
                divideShort(other.limb[0]);
            } else {
                divideLong(other, room);
            }
            settle();
        }

        private void divideShort(int divisor) {
            if (divisor <= 0) {
                return;
            }
            long left = 0;
            for (int i = len - 1; i >= 0; i--) {
                long part = left * BASE + limb[i];
                limb[i] = (int) (part / divisor);
                left = part % divisor;
            }
        }

        /**
         * Long division as on paper: both are scaled first, so that the divisor's highest limb is at
         * least half the base, and a guess of a limb from two limbs is too great by 2 at most.
         */
        private void divideLong(Num divisor, long[] room) {
            int n = divisor.len;
            long scale = BASE / Math.max(1L, divisor.limb[n - 1] + 1L);
            scaleInto(this, scale, room, 0);
            scaleInto(divisor, scale, room, ROOM_HALF);
            int top = len - n;
            for (int at = top; at >= 0; at--) {
                limb[at] = (int) takeMultiple(room, at, n);
            }
            len = top + 1;
        }

        private static void scaleInto(Num from, long scale, long[] room, int at) {
            long carry = 0;
            for (int i = 0; i < from.len; i++) {
                long part = from.limb[i] * scale + carry;
                room[at + i] = part % BASE;
                carry = part / BASE;
            }
            room[at + from.len] = carry;
        }

        /** How often the divisor goes in what is left from a limb on; it is taken away so often. */
        private static long takeMultiple(long[] room, int at, int n) {
            long high = room[ROOM_HALF + n - 1];
            if (high <= 0) {
                return 0;
            }
            long two = room[at + n] * BASE + room[at + n - 1];
            long guess = Math.min(two / high, BASE - 1);
            long borrow = 0;
            for (int i = 0; i < n; i++) {
                long part = room[at + i] - guess * room[ROOM_HALF + i] - borrow;
                borrow = part < 0 ? (BASE - 1 - part) / BASE : 0;
                room[at + i] = part + borrow * BASE;
            }
            room[at + n] -= borrow;
            for (int turn = 0; turn < 3 && room[at + n] < 0; turn++) {
                guess--;
                long carry = 0;
                for (int i = 0; i < n; i++) {
                    long part = room[at + i] + room[ROOM_HALF + i] + carry;
                    carry = part >= BASE ? 1 : 0;
                    room[at + i] = part - carry * BASE;
                }
                room[at + n] += carry;
            }
            return guess;
        }
    }

    /** Entries in order, each of one or two NAMES, with a NUMBER. */
    private static final class Book {
        final long[] first;
        final long[] second;
        final Num[] nums;
        final Num nothing = new Num();
        int used;

        Book(int most) {
            first = new long[most];
            second = new long[most];
            nums = new Num[most];
            for (int i = 0; i < most; i++) {
                nums[i] = new Num();
            }
        }

        void copy(Book other) {
            used = Math.min(other.used, nums.length);
            for (int i = 0; i < used; i++) {
                first[i] = other.first[i];
                second[i] = other.second[i];
                nums[i].copy(other.nums[i]);
            }
        }

        /** Where an entry is; if there is none, -1 less the place where it would be. */
        int find(long a, long b) {
            for (int i = 0; i < used; i++) {
                if (first[i] == a && second[i] == b) {
                    return i;
                }
                if (first[i] > a || first[i] == a && second[i] > b) {
                    return -1 - i;
                }
            }
            return -1 - used;
        }

        Num held(long a, long b) {
            int at = find(a, b);
            return at < 0 ? nothing : nums[at];
        }

        private boolean insert(int at, long a, long b) {
            if (used >= nums.length) {
                return false;
            }
            Num spare = nums[used];
            for (int i = used; i > at; i--) {
                first[i] = first[i - 1];
                second[i] = second[i - 1];
                nums[i] = nums[i - 1];
            }
            first[at] = a;
            second[at] = b;
            nums[at] = spare;
            used++;
            return true;
        }

        void remove(int at) {
            if (at < 0 || at >= used) {
                return;
            }
            Num spare = nums[at];
            used--;
            for (int i = at; i < used; i++) {
                first[i] = first[i + 1];
                second[i] = second[i + 1];
                nums[i] = nums[i + 1];
            }
            nums[used] = spare;
        }

        /** An entry has this NUMBER then; false if it would be one too many. */
        boolean put(long a, long b, Num number) {
            int at = find(a, b);
            if (at < 0) {
                at = -1 - at;
                if (!insert(at, a, b)) {
                    return false;
                }
            }
            nums[at].copy(number);
            return true;
        }

        /** An entry has so much more: 0, WIDE or LARGE. */
        int credit(long a, long b, Num number) {
            int at = find(a, b);
            if (at < 0) {
                at = -1 - at;
                if (!insert(at, a, b)) {
                    return WIDE;
                }
                nums[at].clear();
            }
            return nums[at].grow(number) ? 0 : LARGE;
        }

        /** An entry that has so much at least has so much less, and goes when nothing is left. */
        void debit(long a, long b, Num number) {
            int at = find(a, b);
            if (at < 0) {
                return;
            }
            nums[at].shrink(nums[at], number);
            if (nums[at].sign == 0) {
                remove(at);
            }
        }

        /** Adds what all entries have whose second NAME is this one. */
        void addAll(long b, Num whole) {
            for (int i = 0; i < used; i++) {
                if (second[i] == b) {
                    whole.grow(nums[i]);
                }
            }
        }
    }

    /** What an instance is, but for its contract's text. */
    private static final class State {
        final Book accounts = new Book(ENTRIES);
        final Book choices = new Book(ENTRIES);
        final Book lets = new Book(ENTRIES);
        final Book params;
        long least;
        int node;
        boolean begun;

        State(int mostParameters) {
            params = new Book(mostParameters);
        }

        void restart(int root, long time) {
            accounts.used = 0;
            choices.used = 0;
            lets.used = 0;
            least = time;
            node = root;
            begun = true;
        }

        /** All but the PARAMETERS, which never change once it is begun. */
        void copy(State other) {
            accounts.copy(other.accounts);
            choices.copy(other.choices);
            lets.copy(other.lets);
            least = other.least;
            node = other.node;
        }

        Book book(int what) {
            switch (what) {
                case 1: return accounts;
                case 2: return choices;
                case 3: return lets;
                default: return params;
            }
        }
    }

    /** Inputs, payments, warnings or steps of a path: each a kind, three NAMES and a NUMBER. */
    private static final class Row {
        final int[] kind;
        final long[] first;
        final long[] second;
        final long[] third;
        final Num[] nums;
        int used;

        Row(int most) {
            kind = new int[most];
            first = new long[most];
            second = new long[most];
            third = new long[most];
            nums = new Num[most];
            for (int i = 0; i < most; i++) {
                nums[i] = new Num();
            }
        }

        void set(int at, int sort, long a, long b, long c) {
            if (at < 0 || at >= nums.length) {
                return;
            }
            kind[at] = sort;
            first[at] = a;
            second[at] = b;
            third[at] = c;
        }

        /** False if it would be one too many. */
        boolean add(int sort, long a, long b, long c, Num number) {
            if (used >= nums.length) {
                return false;
            }
            set(used, sort, a, b, c);
            nums[used].copy(number);
            used++;
            return true;
        }

        void copy(Row other) {
            used = 0;
            for (int i = 0; i < other.used; i++) {
                add(other.kind[i], other.first[i], other.second[i], other.third[i], other.nums[i]);
            }
        }
    }

    /**
     * The nodes of all contracts that were ever kept, each behind the one that it stands in, so that
     * a node's first part is right behind it, and its next part where that one ends.
     */
    private static final class Pool {
        final int[] kind = new int[MOST_NODES + TEXT_NODES];
        final int[] behind = new int[MOST_NODES + TEXT_NODES];
        final int[] deep = new int[MOST_NODES + TEXT_NODES];
        final int[] whens = new int[MOST_NODES + TEXT_NODES];
        /** Of a NUMBER and a choice where its digits stand, of a pay 1 for into, of a when its cases. */
        final int[] extra = new int[MOST_NODES + TEXT_NODES];
        /** NAMES; of a when its time, and the NAME of the PARAMETER that is its time; of a choice third its pairs. */
        final long[] first = new long[MOST_NODES + TEXT_NODES];
        final long[] second = new long[MOST_NODES + TEXT_NODES];
        final long[] third = new long[MOST_NODES + TEXT_NODES];
        int used;
        /** All kept texts stand in the journal, so that two texts of the greatest length are enough. */
        final int[] digits = new int[2 * BYTES + 2 * LIMBS];
        int digitsUsed;

        void clear() {
            used = 0;
            digitsUsed = 0;
        }

        /** Puts a NUMBER to the digits: how many places it takes. */
        int store(int at, Num number) {
            if (at < 0 || at + number.len >= digits.length) {
                return 0;
            }
            digits[at] = number.sign * number.len;
            for (int i = 0; i < number.len; i++) {
                digits[at + 1 + i] = number.limb[i];
            }
            return 1 + number.len;
        }

        /** Takes a NUMBER of the digits: where the next one stands. */
        int load(int at, Num number) {
            number.clear();
            if (at < 0 || at >= digits.length) {
                return at;
            }
            number.len = Math.min(Math.abs(digits[at]), LIMBS);
            number.sign = Integer.compare(digits[at], 0);
            for (int i = 0; i < number.len && at + 1 + i < digits.length; i++) {
                number.limb[i] = digits[at + 1 + i];
            }
            return at + 1 + number.len;
        }

        void loadBound(int node, int which, Num number) {
            int at = extra[node];
            for (int i = 0; i <= which; i++) {
                at = load(at, number);
            }
        }

        boolean isCase(int node) {
            return node >= 0 && node < kind.length && kind[node] >= DEPOSIT && kind[node] <= NOTIFY;
        }

        int behindCases(int node) {
            int at = node + 1;
            for (int i = 0; i < MOST_CASES && isCase(at); i++) {
                at = behind[at];
            }
            return at;
        }

        /** The contract behind a case, a pay, a let, an assert: its last part. */
        int lastPart(int node) {
            return kind[node] == CHOICE ? node + 1 : behind[node + 1];
        }

        long latestTime(int root) {
            long latest = NONE;
            for (int n = root; n < behind[root]; n++) {
                if (kind[n] == WHEN && second[n] == 0) {
                    latest = Math.max(latest, first[n]);
                }
            }
            return latest;
        }

        int nestedWhens(int root) {
            int most = 0;
            for (int n = root; n < behind[root]; n++) {
                most = Math.max(most, whens[n]);
            }
            return most;
        }

        /** The NAME of the PARAMETER that a node has, or 0. */
        private long parameterAt(int node) {
            return kind[node] == PARAMETER ? first[node] : kind[node] == WHEN ? second[node] : 0;
        }

        int parametersOf(int root) {
            int different = 0;
            for (int n = root; n < behind[root]; n++) {
                long name = parameterAt(n);
                boolean isNew = name != 0;
                for (int m = root; m < n && isNew; m++) {
                    isNew = parameterAt(m) != name;
                }
                different += isNew ? 1 : 0;
            }
            return different;
        }

        private boolean givesToAccount(int node) {
            return kind[node] == DEPOSIT || kind[node] == PAY && extra[node] == 1;
        }

        private long ownerAt(int node) {
            return kind[node] == DEPOSIT ? first[node] : second[node];
        }

        int accountsOf(int root) {
            int different = 0;
            for (int n = root; n < behind[root]; n++) {
                boolean isNew = givesToAccount(n);
                for (int m = root; m < n && isNew; m++) {
                    isNew = !(givesToAccount(m) && ownerAt(m) == ownerAt(n) && third[m] == third[n]);
                }
                different += isNew ? 1 : 0;
            }
            return different;
        }

        /** Whether a PARAMETER of a contract is none, or stands as a time and can't be one. */
        boolean lacks(int root, Book parameters) {
            for (int n = root; n < behind[root]; n++) {
                long name = parameterAt(n);
                if (name != 0 && parameters.find(name, 0) < 0) {
                    return true;
                }
                if (name != 0 && kind[n] == WHEN && parameters.held(name, 0).asTime() == NONE) {
                    return true;
                }
            }
            return false;
        }
    }

    /** Reads a text's tokens one behind the other, and the texts that are no contracts. */
    private static final class Reader {
        final long[] words = new long[WORDS];
        private byte[] text = new byte[0];
        private int length;
        private int position;
        int type;
        int place;
        long code;
        final Num number = new Num();
        int latestFault = NONE;
        int faultPlace = NONE;

        Reader() {
            int word = 0;
            for (int i = 0; i < KEYWORDS.length() && word < WORDS; i++) {
                char c = KEYWORDS.charAt(i);
                if (c == ' ') {
                    word++;
                } else {
                    words[word] = (words[word] << 8) | c;
                }
            }
        }

        /** Tells the fault of a text that was read, which is at the token that was read last. */
        boolean isFaulty(int found) {
            latestFault = found;
            faultPlace = found == 0 ? NONE : place;
            return found != 0;
        }

        void forgetFault() {
            latestFault = NONE;
            faultPlace = NONE;
        }

        void open(byte[] bytes, int howMany) {
            text = bytes;
            length = Math.min(howMany, bytes.length);
            position = 0;
        }

        void advance() {
            int from = position;
            while (from < length && isBlank(text[from])) {
                from++;
            }
            place = from;
            position = from;
            if (from >= length) {
                type = ENDED;
                return;
            }
            type = bracket(text[from]);
            if (type != NONE) {
                position = from + 1;
                return;
            }
            while (position < length && !isBlank(text[position]) && bracket(text[position]) == NONE) {
                position++;
            }
            type = typeOf(from, position);
        }

        private static boolean isBlank(int b) {
            return (b & 255) <= 32;
        }

        private static int bracket(int b) {
            switch (b) {
                case '(': return OPEN;
                case ')': return SHUT;
                case '[': return LEFT;
                case ']': return RIGHT;
                default: return NONE;
            }
        }

        private static boolean isLetter(int b) {
            return b >= 'a' && b <= 'z';
        }

        private static boolean isDigit(int b) {
            return b >= '0' && b <= '9';
        }

        private int typeOf(int from, int to) {
            int b = text[from];
            if (b == '-' || isDigit(b)) {
                return numberType(from, to);
            }
            boolean isParameter = b == '?';
            if (!pack(isParameter ? from + 1 : from, to)) {
                return BAD_TOKEN;
            }
            int word = keyword(code);
            if (isParameter) {
                return word == NONE ? PARAMETER : BAD_TOKEN;
            }
            return word == NONE ? NAME : word;
        }

        private int numberType(int from, int to) {
            boolean minus = text[from] == '-';
            int high = minus ? from + 1 : from;
            if (high >= to) {
                return BAD_TOKEN;
            }
            for (int i = high; i < to; i++) {
                if (!isDigit(text[i])) {
                    return BAD_TOKEN;
                }
            }
            while (high < to && text[high] == '0') {
                high++;
            }
            if (to - high > DIGITS) {
                return LONG_NUMBER;
            }
            number.setDigits(text, high, to, minus);
            return NUMBER;
        }

        private boolean pack(int from, int to) {
            if (from >= to || to - from > 8 || !isLetter(text[from])) {
                return false;
            }
            code = 0;
            for (int i = from; i < to; i++) {
                if (!isLetter(text[i]) && !isDigit(text[i])) {
                    return false;
                }
                code = (code << 8) | text[i];
            }
            return true;
        }

        private int keyword(long name) {
            for (int i = 0; i < WORDS; i++) {
                if (words[i] == name) {
                    return i;
                }
            }
            return NONE;
        }

        boolean isName(long value) {
            int shift = 56;
            while (shift > 0 && (value >>> shift) == 0) {
                shift -= 8;
            }
            if (!isLetter((int) (value >>> shift))) {
                return false;
            }
            for (int s = shift - 8; s >= 0; s -= 8) {
                int b = (int) (value >>> s) & 255;
                if (!isLetter(b) && !isDigit(b)) {
                    return false;
                }
            }
            return keyword(value) == NONE;
        }

        /** The fault of the next token where the text must end, or 0. */
        int faultBehind() {
            advance();
            if (type < 0) {
                return -type;
            }
            return type == ENDED ? 0 : 9;
        }

        /** Reads a text of one NUMBER: its fault, or 0. */
        int numberText(byte[] bytes, int howMany) {
            open(bytes, howMany);
            advance();
            if (type < 0) {
                return -type;
            }
            if (type != NUMBER) {
                return type == ENDED ? 3 : 4;
            }
            return faultBehind();
        }

        /** Reads a text of INPUTS: its fault, or 0. */
        int inputsText(byte[] bytes, int howMany, Row inputs) {
            open(bytes, howMany);
            inputs.used = 0;
            String shape = "";
            int step = 0;
            for (int t = 0; t <= length; t++) {
                advance();
                if (type < 0) {
                    return -type;
                }
                int found;
                if (step < shape.length()) {
                    found = inputPart(inputs, inputs.used - 1, shape.charAt(step));
                    step++;
                } else {
                    if (type == ENDED) {
                        return 0;
                    }
                    found = inputBegins(inputs);
                    shape = type == DEPOSIT ? "123n" : type == CHOICE ? "12n" : "";
                    step = 0;
                }
                if (found != 0) {
                    return found;
                }
            }
            return 0;
        }

        private int inputBegins(Row inputs) {
            if (type < DEPOSIT || type > NOTIFY) {
                return 4;
            }
            if (inputs.used >= INPUTS) {
                return 9;
            }
            inputs.set(inputs.used, type, 0, 0, 0);
            inputs.used++;
            return 0;
        }

        private int inputPart(Row inputs, int at, char part) {
            if (type == ENDED) {
                return 3;
            }
            if (type != (part == 'n' ? NUMBER : NAME) || at < 0) {
                return 4;
            }
            switch (part) {
                case '1': inputs.first[at] = code; break;
                case '2': inputs.second[at] = code; break;
                case '3': inputs.third[at] = code; break;
                default: inputs.nums[at].copy(number); break;
            }
            return 0;
        }
    }

    /**
     * Reads the text of a contract to the pool's end. What must still come is a stack of signs (those
     * of shape(), and h for a second bound), each with the node that it is of; a token takes one.
     */
    private static final class Parser {
        private static final int ROOM = 1024;
        private final Pool pool;
        private final Reader reader;
        private final int[] signs = new int[ROOM];
        /** The node that a sign is of; of a ) how many of them must come. */
        private final int[] owners = new int[ROOM];
        private int top;
        private int digits;
        private final Num lower = new Num();
        int nodes;

        Parser(Pool pool, Reader reader) {
            this.pool = pool;
            this.reader = reader;
        }

        /** The fault of the text, at the reader's place, or 0. */
        int parse(byte[] text, int length) {
            reader.open(text, length);
            nodes = 0;
            digits = 0;
            top = 0;
            push('c', NONE);
            int found = 0;
            for (int t = 0; t <= length && top > 0 && found == 0; t++) {
                reader.advance();
                if (reader.type < 0) {
                    found = -reader.type;
                } else {
                    found = reader.type == ENDED ? 3 : meet(signs[top - 1], owners[top - 1]);
                }
            }
            if (found == 0) {
                found = reader.faultBehind();
            }
            if (found == 0) {
                tellEnds();
            }
            return found;
        }

        void accept() {
            pool.used += nodes;
            pool.digitsUsed += digits;
        }

        private void push(int sign, int owner) {
            if (top < ROOM) {
                signs[top] = sign;
                owners[top] = owner;
                top++;
            }
        }

        private void pushShape(int node) {
            String shape = shape(pool.kind[node]);
            for (int i = shape.length() - 1; i >= 0; i--) {
                push(shape.charAt(i), node);
            }
        }

        private int meet(int sign, int owner) {
            switch (sign) {
                case 'c': case 'v': case 'o': return meetNode(sign, owner);
                case 'k': return meetCase(owner);
                case 'a': return meetAction(owner);
                case 't': return meetTime(owner);
                case 'b': return meetBound(owner);
                case 'h': return meetSecondBound(owner);
                case ')': return meetShut();
                case 'd': return meetWay(owner);
                case '[': return meetLeft();
                default: return meetName(sign, owner);
            }
        }

        private int meetNode(int sign, int owner) {
            if (reader.type == OPEN) {
                meetOpen(sign, owner);
                return 0;
            }
            if (!begins(sign)) {
                return 4;
            }
            if (isTooMuch(owner)) {
                return 7;
            }
            top--;
            int node = addNode(reader.type, owner);
            if (reader.type == NUMBER) {
                pool.extra[node] = pool.digitsUsed + digits;
                storeNumber();
            }
            if (reader.type == PARAMETER) {
                pool.first[node] = reader.code;
            }
            pushShape(node);
            return 0;
        }

        /** All ) that end at one place are one sign, so that no text has too many for the stack. */
        private void meetOpen(int sign, int owner) {
            top--;
            if (top > 0 && signs[top - 1] == ')') {
                owners[top - 1]++;
            } else {
                push(')', 1);
            }
            push(sign, owner);
        }

        private int meetShut() {
            if (reader.type != SHUT) {
                return 4;
            }
            owners[top - 1]--;
            if (owners[top - 1] == 0) {
                top--;
            }
            return 0;
        }

        private boolean begins(int sign) {
            int type = reader.type;
            switch (sign) {
                case 'c': return type >= CLOSE && type <= ASSERT;
                case 'v': return type >= HELD && type <= COND || type == NUMBER || type == PARAMETER;
                default: return type >= AND && type <= FALSE;
            }
        }

        private int deepIn(int owner) {
            return owner == NONE ? 0 : pool.deep[owner] + 1;
        }

        private boolean isTooMuch(int owner) {
            return deepIn(owner) > DEEPEST || nodes >= TEXT_NODES || pool.used + nodes >= pool.kind.length;
        }

        private int addNode(int kind, int owner) {
            int node = pool.used + nodes;
            nodes++;
            pool.kind[node] = kind;
            pool.deep[node] = deepIn(owner);
            pool.whens[node] = (owner == NONE ? 0 : pool.whens[owner]) + (kind == WHEN ? 1 : 0);
            pool.extra[node] = 0;
            pool.first[node] = 0;
            pool.second[node] = 0;
            pool.third[node] = 0;
            return node;
        }

        private void storeNumber() {
            digits += pool.store(pool.digitsUsed + digits, reader.number);
        }

        private int meetCase(int owner) {
            if (reader.type == RIGHT) {
                top--;
                return 0;
            }
            if (reader.type != CASE) {
                return 4;
            }
            if (isTooMuch(owner)) {
                return 7;
            }
            if (pool.extra[owner] >= MOST_CASES) {
                return 8;
            }
            pool.extra[owner]++;
            pushShape(addNode(CASE, owner));
            return 0;
        }

        private int meetAction(int owner) {
            if (reader.type < DEPOSIT || reader.type > NOTIFY) {
                return 4;
            }
            top--;
            pool.kind[owner] = reader.type;
            pushShape(owner);
            return 0;
        }

        private int meetTime(int owner) {
            if (reader.type != NUMBER && reader.type != PARAMETER) {
                return 4;
            }
            top--;
            if (reader.type == PARAMETER) {
                pool.second[owner] = reader.code;
                return 0;
            }
            pool.first[owner] = reader.number.asTime();
            return pool.first[owner] == NONE ? 5 : 0;
        }

        private int meetBound(int owner) {
            if (reader.type == RIGHT && pool.third[owner] > 0) {
                top--;
                return 0;
            }
            if (reader.type != NUMBER) {
                return 4;
            }
            if (pool.third[owner] >= MOST_PAIRS) {
                return 8;
            }
            if (pool.third[owner] == 0) {
                pool.extra[owner] = pool.digitsUsed + digits;
            }
            storeNumber();
            lower.copy(reader.number);
            push('h', owner);
            return 0;
        }

        private int meetSecondBound(int owner) {
            if (reader.type != NUMBER) {
                return 4;
            }
            if (reader.number.compare(lower) < 0) {
                return 6;
            }
            top--;
            storeNumber();
            pool.third[owner]++;
            return 0;
        }

        private int meetWay(int owner) {
            if (reader.type != TO && reader.type != INTO) {
                return 4;
            }
            top--;
            pool.extra[owner] = reader.type == INTO ? 1 : 0;
            return 0;
        }

        private int meetLeft() {
            if (reader.type != LEFT) {
                return 4;
            }
            top--;
            return 0;
        }

        private int meetName(int sign, int owner) {
            if (reader.type != NAME) {
                return 4;
            }
            top--;
            switch (sign) {
                case '1': pool.first[owner] = reader.code; break;
                case '2': pool.second[owner] = reader.code; break;
                default: pool.third[owner] = reader.code; break;
            }
            return 0;
        }

        /** A node ends where the next one stands that is not deeper. */
        private void tellEnds() {
            int over = pool.used + nodes;
            for (int n = over - 1; n >= pool.used; n--) {
                int at = n + 1;
                for (int i = n; i < over && at < over && pool.deep[at] > pool.deep[n]; i++) {
                    at = pool.behind[at];
                }
                pool.behind[n] = at;
            }
        }
    }

    /** The out: bytes, most often tokens with a blank between each two. */
    private static final class Writer {
        private static final int ROOM = 1024;
        final byte[] bytes = new byte[BYTES];
        int used;
        private final long[] words;
        private final int[] signs = new int[ROOM];
        private final int[] owners = new int[ROOM];
        private int top;
        private final Num spare = new Num();

        Writer(long[] words) {
            this.words = words;
        }

        void clear() {
            used = 0;
        }

        void put(int b) {
            if (used < BYTES) {
                bytes[used] = (byte) b;
                used++;
            }
        }

        private void gap() {
            if (used > 0) {
                put(' ');
            }
        }

        void sign(int b) {
            gap();
            put(b);
        }

        void code(long name) {
            gap();
            putCode(name);
        }

        private void putCode(long name) {
            for (int shift = 56; shift >= 0; shift -= 8) {
                if (name >>> shift != 0) {
                    put((int) (name >>> shift));
                }
            }
        }

        void keyword(int kind) {
            if (kind >= 0 && kind < WORDS) {
                code(words[kind]);
            }
        }

        void number(Num number) {
            gap();
            if (number.sign < 0) {
                put('-');
            }
            if (number.sign == 0) {
                put('0');
            }
            boolean isPast = false;
            for (int i = number.len - 1; i >= 0; i--) {
                for (int unit = BASE / 10; unit > 0; unit /= 10) {
                    int digit = number.limb[i] / unit % 10;
                    isPast = isPast || digit != 0;
                    if (isPast) {
                        put('0' + digit);
                    }
                }
            }
        }

        void time(long time) {
            spare.setTime(time);
            number(spare);
        }

        /** The nodes stand in the order of their tokens, so that the next one is always the next part. */
        void contract(Pool pool, int root) {
            int next = root;
            top = 0;
            push('c', root);
            for (int step = 0; step < BYTES && top > 0 && next < pool.kind.length; step++) {
                top--;
                int sign = signs[top];
                int owner = owners[top];
                if (sign == 'c' || sign == 'v' || sign == 'o') {
                    node(pool, next);
                    next++;
                } else if (sign == 'k' && pool.isCase(next)) {
                    push('k', owner);
                    keyword(CASE);
                    node(pool, next);
                    next++;
                } else {
                    part(pool, sign, owner);
                }
            }
        }

        private void push(int sign, int owner) {
            if (top < ROOM) {
                signs[top] = sign;
                owners[top] = owner;
                top++;
            }
        }

        private void node(Pool pool, int node) {
            int kind = pool.kind[node];
            if (kind == NUMBER) {
                pool.load(pool.extra[node], spare);
                number(spare);
            } else if (kind == PARAMETER) {
                named(pool.first[node]);
            } else {
                keyword(kind);
            }
            String shape = shape(kind);
            for (int i = shape.length() - 1; i >= 0; i--) {
                push(shape.charAt(i), node);
            }
        }

        private void named(long parameter) {
            sign('?');
            putCode(parameter);
        }

        private void part(Pool pool, int sign, int owner) {
            switch (sign) {
                case '1': code(pool.first[owner]); break;
                case '2': code(pool.second[owner]); break;
                case '3': code(pool.third[owner]); break;
                case 'd': keyword(pool.extra[owner] == 1 ? INTO : TO); break;
                case '[': sign('['); break;
                case 'k': sign(']'); break;
                case 'b': bounds(pool, owner); break;
                default: whenTime(pool, owner); break;
            }
        }

        private void bounds(Pool pool, int owner) {
            int at = pool.extra[owner];
            for (int i = 0; i < 2 * pool.third[owner]; i++) {
                at = pool.load(at, spare);
                number(spare);
            }
            sign(']');
        }

        private void whenTime(Pool pool, int owner) {
            if (pool.second[owner] != 0) {
                named(pool.second[owner]);
            } else {
                time(pool.first[owner]);
            }
        }
    }

    /** Works out values and observations, and runs transactions on a state that may be thrown away. */
    private static final class Machine {
        private static final int STEPS = 1000;
        private final Pool pool;
        private final Num[] nums = new Num[DEEPEST + 4];
        private final long[] room = new long[2 * ROOM_HALF];
        private final Num paid = new Num();
        private State state = new State(0);
        private Book params = new Book(0);
        private boolean looking;
        final Book wallets = new Book(WALLETS);
        final Row payments = new Row(NOTES);
        final Row warnings = new Row(NOTES);
        private long start;
        private long end;
        private boolean isLarge;
        private boolean closePaid;

        Machine(Pool pool) {
            this.pool = pool;
            for (int i = 0; i < nums.length; i++) {
                nums[i] = new Num();
            }
        }

        /** What is worked on; one that looks ahead has no wallets. */
        void aim(State worked, Book given, boolean ahead) {
            state = worked;
            params = given;
            looking = ahead;
        }

        long timeOf(int node) {
            long name = pool.second[node];
            return name == 0 ? pool.first[node] : params.held(name, 0).asTime();
        }

        /** What is worked out from now on is so by this interval. */
        void stand(long from, long to) {
            start = from;
            end = to;
            isLarge = false;
        }

        /** A value comes to be nums[depth]; the answer is an observation's alone. */
        private boolean work(int node, int depth) {
            if (depth + 1 >= nums.length) {
                isLarge = true;
                return false;
            }
            int kind = pool.kind[node];
            if (isLeaf(kind)) {
                return leaf(node, nums[depth]);
            }
            int first = node + 1;
            boolean truth = work(first, depth + 1);
            raise(depth);
            if (kind == NOT) {
                return !truth;
            }
            if (kind == NEG) {
                nums[depth].sign = -nums[depth].sign;
                return false;
            }
            int second = pool.behind[first];
            if (kind == COND) {
                work(truth ? second : pool.behind[second], depth + 1);
                raise(depth);
                return false;
            }
            boolean other = work(second, depth + 1);
            Num left = nums[depth];
            Num right = nums[depth + 1];
            boolean fits = true;
            switch (kind) {
                case AND: return truth && other;
                case OR: return truth || other;
                case ADD: fits = left.add(right, 1); break;
                case SUB: fits = left.add(right, -1); break;
                case MUL: fits = left.multiply(right, room); break;
                case DIV: left.divide(right, room); break;
                default: return isSo(kind, left.compare(right));
            }
            isLarge = isLarge || !fits;
            return false;
        }

        private static boolean isLeaf(int kind) {
            switch (kind) {
                case NUMBER: case PARAMETER: case HELD: case CHOSEN: case START: case END: case USE: return true;
                default: return kind == CHOSE || kind == TRUE || kind == FALSE;
            }
        }

        /** The part that was worked out last makes room for the next one. */
        private void raise(int depth) {
            Num part = nums[depth + 1];
            nums[depth + 1] = nums[depth];
            nums[depth] = part;
        }

        private static boolean isSo(int kind, int order) {
            switch (kind) {
                case GE: return order >= 0;
                case GT: return order > 0;
                case LE: return order <= 0;
                case LT: return order < 0;
                default: return order == 0;
            }
        }

        private boolean leaf(int node, Num value) {
            long a = pool.first[node];
            long b = pool.second[node];
            switch (pool.kind[node]) {
                case NUMBER: pool.load(pool.extra[node], value); return false;
                case PARAMETER: value.copy(params.held(a, 0)); return false;
                case HELD: value.copy(state.accounts.held(a, b)); return false;
                case CHOSEN: value.copy(state.choices.held(a, b)); return false;
                case USE: value.copy(state.lets.held(a, 0)); return false;
                case START: value.setTime(start); return false;
                case END: value.setTime(end); return false;
                case CHOSE: return state.choices.find(a, b) >= 0;
                default: return pool.kind[node] == TRUE;
            }
        }

        /** A transaction with some of the inputs of a row: 0, or why it is refused. */
        int run(long from, long to, Row inputs, int first, int howMany) {
            payments.used = 0;
            warnings.used = 0;
            if (from > to || from < 0 || to > LAST_TIME) {
                return NO_INTERVAL;
            }
            if (to < state.least) {
                return PAST;
            }
            stand(Math.max(from, state.least), to);
            closePaid = false;
            int before = state.node;
            int code = reduce();
            for (int i = first; i < first + howMany && code == 0; i++) {
                code = apply(inputs, i);
                if (code == 0) {
                    code = reduce();
                }
            }
            if (code == 0 && howMany == 0 && state.node == before && !closePaid) {
                code = USELESS;
            }
            if (code == 0) {
                state.least = start;
            }
            return code;
        }

        boolean isQuietAt(long time) {
            int kind = pool.kind[state.node];
            if (kind == CLOSE) {
                return state.accounts.used == 0;
            }
            return kind == WHEN && time < timeOf(state.node);
        }

        private int reduce() {
            for (int step = 0; step < STEPS; step++) {
                int node = state.node;
                int kind = pool.kind[node];
                if ((kind == CLOSE || kind == WHEN) && isQuietAt(end)) {
                    return 0;
                }
                int code;
                if (kind == WHEN) {
                    code = passWhen(node);
                } else if (kind == CLOSE) {
                    long party = state.accounts.first[0];
                    paid.copy(state.accounts.nums[0]);
                    closePaid = true;
                    code = payOut(0, party, party, state.accounts.second[0]);
                } else {
                    boolean truth = work(node + 1, 0);
                    code = isLarge ? LARGE : pass(node, kind, truth);
                    if (code == 0 && kind == PAY && paid.sign > 0) {
                        code = payOut(pool.extra[node], pool.first[node], pool.second[node], pool.third[node]);
                    }
                }
                if (code != 0) {
                    return code;
                }
            }
            return 0;
        }

        private int passWhen(int node) {
            if (start < timeOf(node)) {
                return AMBIGUOUS;
            }
            state.node = pool.behindCases(node);
            return 0;
        }

        /** Passes a contract whose value or observation is worked out; what a pay pays is told by paid. */
        private int pass(int node, int kind, boolean truth) {
            int next = pool.lastPart(node);
            state.node = kind == IF && !truth ? pool.behind[next] : next;
            switch (kind) {
                case PAY: return weighPay(node);
                case LET: return let(pool.first[node]);
                case ASSERT: return truth || warnings.add(5, 0, 0, 0, nums[0]) ? 0 : WIDE;
                default: return 0;
            }
        }

        private int let(long name) {
            int at = state.lets.find(name, 0);
            if (at >= 0 && !warnings.add(4, name, 0, 0, state.lets.nums[at])) {
                return WIDE;
            }
            return state.lets.put(name, 0, nums[0]) ? 0 : WIDE;
        }

        /** Tells by paid what a pay takes from its account. */
        private int weighPay(int node) {
            long payer = pool.first[node];
            long payee = pool.second[node];
            long token = pool.third[node];
            Num wanted = nums[0];
            paid.clear();
            if (wanted.sign <= 0) {
                return warnings.add(2, payer, payee, token, wanted) ? 0 : WIDE;
            }
            Num has = state.accounts.held(payer, token);
            boolean inFull = has.compare(wanted) >= 0;
            paid.copy(inFull ? wanted : has);
            return inFull || warnings.add(3, payer, payee, token, wanted) ? 0 : WIDE;
        }

        private int payOut(int sort, long payer, long payee, long token) {
            if (!payments.add(sort, payer, payee, token, paid)) {
                return WIDE;
            }
            state.accounts.debit(payer, token, paid);
            if (sort == 1) {
                return state.accounts.credit(payee, token, paid);
            }
            return looking ? 0 : wallets.credit(payee, token, paid);
        }

        private int apply(Row inputs, int at) {
            int when = state.node;
            if (pool.kind[when] != WHEN) {
                return NOT_TAKEN;
            }
            int next = when + 1;
            for (int i = 0; i < MOST_CASES && pool.isCase(next); i++) {
                if (isNamed(next, inputs, at)) {
                    boolean takes = inputs.kind[at] == CHOICE ? isBounded(next, inputs.nums[at]) : work(next + 1, 0);
                    if (isLarge) {
                        return LARGE;
                    }
                    if (inputs.kind[at] == DEPOSIT) {
                        takes = nums[0].compare(inputs.nums[at]) == 0;
                    }
                    if (takes) {
                        state.node = pool.lastPart(next);
                        return take(inputs, at);
                    }
                }
                next = pool.behind[next];
            }
            return NOT_TAKEN;
        }

        private boolean isNamed(int node, Row inputs, int at) {
            int kind = inputs.kind[at];
            if (pool.kind[node] != kind) {
                return false;
            }
            boolean same = pool.first[node] == inputs.first[at] && pool.second[node] == inputs.second[at];
            return kind == NOTIFY || same && (kind == CHOICE || pool.third[node] == inputs.third[at]);
        }

        private boolean isBounded(int node, Num number) {
            int at = pool.extra[node];
            for (int i = 0; i < pool.third[node]; i++) {
                at = pool.load(at, nums[0]);
                at = pool.load(at, nums[1]);
                if (nums[0].compare(number) <= 0 && nums[1].compare(number) >= 0) {
                    return true;
                }
            }
            return false;
        }

        private int take(Row inputs, int at) {
            long first = inputs.first[at];
            long second = inputs.second[at];
            long token = inputs.third[at];
            Num number = inputs.nums[at];
            if (inputs.kind[at] == CHOICE) {
                return state.choices.put(first, second, number) ? 0 : WIDE;
            }
            if (inputs.kind[at] == NOTIFY) {
                return 0;
            }
            if (number.sign <= 0) {
                return warnings.add(1, first, second, token, number) ? 0 : WIDE;
            }
            if (!looking) {
                if (wallets.held(second, token).compare(number) < 0) {
                    return POOR;
                }
                wallets.debit(second, token, number);
            }
            return state.accounts.credit(first, token, number);
        }
    }

    /** Looks for what can go wrong: each level is a state, and what was tried from it last. */
    private static final class Search {
        private static final int FRESH = -1;
        private static final int SPENT = -2;
        private static final int OFFERS = 100;
        private final Pool pool;
        private final Machine machine;
        private final State[] levels = new State[LEVELS];
        private final Row path = new Row(LEVELS);
        private final long[] starts = new long[LEVELS];
        /** The case that is looked at next from a level, or FRESH, or SPENT. */
        private final int[] cursors = new int[LEVELS];
        /** The bound of that case that is looked at next. */
        private final int[] bounds = new int[LEVELS];
        private final Num lower = new Num();
        private Book params = new Book(0);
        int made;

        Search(Pool pool, Machine machine) {
            this.pool = pool;
            this.machine = machine;
        }

        /** 1 FOUND, 0 all tries were made, 2 the fuel ended. */
        int run(State from, Book given, int mask, int fuel) {
            params = given;
            made = 0;
            int depth = 0;
            level(0).copy(from);
            cursors[0] = FRESH;
            for (int turn = 0; turn < 3 * MOST_FUEL && depth >= 0; turn++) {
                if (!propose(depth)) {
                    depth--;
                    continue;
                }
                if (made >= fuel) {
                    return 2;
                }
                made++;
                if (depth + 1 >= LEVELS) {
                    continue;
                }
                State next = level(depth + 1);
                next.copy(level(depth));
                machine.aim(next, params, true);
                int howMany = path.kind[depth] == NONE ? 0 : 1;
                if (machine.run(starts[depth], starts[depth], path, depth, howMany) == 0) {
                    if (isFound(mask)) {
                        path.used = depth + 1;
                        return 1;
                    }
                    depth++;
                    cursors[depth] = FRESH;
                }
            }
            return 0;
        }

        /** States are made when they are first needed: most searches are not deep. */
        private State level(int depth) {
            State state = levels[depth];
            if (state == null) {
                state = new State(0);
                levels[depth] = state;
            }
            return state;
        }

        private boolean isFound(int mask) {
            for (int i = 0; i < machine.warnings.used; i++) {
                if ((mask >> (machine.warnings.kind[i] - 1) & 1) != 0) {
                    return true;
                }
            }
            return false;
        }

        /** Puts the next try of a level on the path; false if there is none. */
        private boolean propose(int depth) {
            State state = level(depth);
            machine.aim(state, params, true);
            if (cursors[depth] == FRESH) {
                cursors[depth] = SPENT;
                if (!machine.isQuietAt(state.least)) {
                    return proposeWait(depth, state.least);
                }
                if (pool.kind[state.node] == WHEN) {
                    cursors[depth] = state.node + 1;
                    bounds[depth] = 0;
                }
            }
            for (int i = 0; i < OFFERS && cursors[depth] != SPENT; i++) {
                int node = cursors[depth];
                if (!pool.isCase(node)) {
                    cursors[depth] = SPENT;
                    return proposeWait(depth, machine.timeOf(state.node));
                }
                starts[depth] = state.least;
                boolean offered = pool.kind[node] == CHOICE ? proposeChoice(depth, node) : proposeWorked(depth, node);
                if (offered) {
                    return true;
                }
            }
            return false;
        }

        private boolean proposeWait(int depth, long time) {
            starts[depth] = time;
            path.set(depth, NONE, 0, 0, 0);
            return true;
        }

        private boolean proposeChoice(int depth, int node) {
            int which = bounds[depth];
            if (which >= 2 * pool.third[node]) {
                cursors[depth] = pool.behind[node];
                bounds[depth] = 0;
                return false;
            }
            bounds[depth] = which + 1;
            path.set(depth, CHOICE, pool.first[node], pool.second[node], 0);
            pool.loadBound(node, which, path.nums[depth]);
            if (which % 2 == 0) {
                return true;
            }
            pool.loadBound(node, which - 1, lower);
            return lower.compare(path.nums[depth]) != 0;
        }

        private boolean proposeWorked(int depth, int node) {
            cursors[depth] = pool.behind[node];
            machine.stand(starts[depth], starts[depth]);
            boolean truth = machine.work(node + 1, 0);
            if (machine.isLarge) {
                return false;
            }
            if (pool.kind[node] == NOTIFY) {
                path.set(depth, NOTIFY, 0, 0, 0);
                return truth;
            }
            path.set(depth, DEPOSIT, pool.first[node], pool.second[node], pool.third[node]);
            path.nums[depth].copy(machine.nums[0]);
            return true;
        }

        void tellPath(Writer out) {
            for (int i = 0; i < path.used; i++) {
                int kind = path.kind[i];
                if (kind == NONE) {
                    out.code(WAIT_WORD);
                } else {
                    out.keyword(kind);
                }
                if (kind == DEPOSIT || kind == CHOICE) {
                    out.code(path.first[i]);
                    out.code(path.second[i]);
                }
                if (kind == DEPOSIT) {
                    out.code(path.third[i]);
                }
                if (kind == DEPOSIT || kind == CHOICE) {
                    out.number(path.nums[i]);
                }
                if (kind != NONE) {
                    out.code(AT_WORD);
                }
                out.time(starts[i]);
            }
        }
    }

    /** The disk and its records. */
    private static final class Journal {
        final byte[] disk = new byte[BYTES];
        int used;
        int records;
        /** How many bytes the FUSE lets be written, or NONE. */
        int left = NONE;
        boolean dark;
        private int position;
        private int check;

        void rewind() {
            used = 0;
            records = 0;
            left = NONE;
            dark = false;
        }

        private static int lengthOf(int kind, int textLength) {
            return BARE_RECORD + 8 * RECORD_NUMBERS[kind] + textLength;
        }

        private static boolean takesText(int kind) {
            return kind == KEEP_RECORD || kind >= MINT_RECORD && kind <= PARAMETER_RECORD;
        }

        boolean hasRoom(int kind, int textLength) {
            return used + lengthOf(kind, textLength) <= BYTES;
        }

        /** False if the power is cut before the last byte. */
        boolean write(int kind, long a, long b, long c, byte[] text, int textLength) {
            int length = lengthOf(kind, textLength);
            int nextKind = used + length + 2;
            if (nextKind < BYTES) {
                disk[nextKind] = 0;
            }
            position = used;
            check = firstCheck();
            putNumber(length, 2);
            putNumber(kind, 1);
            for (int i = 0; i < RECORD_NUMBERS[kind]; i++) {
                putNumber(i == 0 ? a : i == 1 ? b : c, 8);
            }
            for (int i = 0; i < textLength; i++) {
                putByte(text[i]);
            }
            putNumber(checkWithPlace(check, used), 4);
            if (dark) {
                disk[used + 2] = 0;
                return false;
            }
            pass(length);
            return true;
        }

        void pass(int length) {
            used += length;
            records++;
        }

        private void putNumber(long number, int howMany) {
            for (int shift = 8 * howMany - 8; shift >= 0; shift -= 8) {
                putByte((int) (number >>> shift));
            }
        }

        private void putByte(int b) {
            check = mixed(check, b);
            if (left == 0) {
                dark = true;
            }
            if (dark || position >= BYTES) {
                return;
            }
            disk[position] = (byte) b;
            position++;
            if (left > 0) {
                left--;
            }
        }

        private static int firstCheck() {
            return (int) 2166136261L;
        }

        private static int mixed(int check, int b) {
            return (check ^ (b & 255)) * 16777619;
        }

        private static int checkWithPlace(int check, int place) {
            int mixed = check;
            for (int shift = 24; shift >= 0; shift -= 8) {
                mixed = mixed(mixed, place >>> shift);
            }
            return mixed;
        }

        int kindHere() {
            return used + 2 < BYTES ? disk[used + 2] & 255 : 0;
        }

        private int lengthHere() {
            return used + 1 < BYTES ? (disk[used] & 255) << 8 | disk[used + 1] & 255 : 0;
        }

        /** How long the record is that stands behind all that were done, or 0 if there is none. */
        int soundLength() {
            int length = lengthHere();
            int kind = kindHere();
            if (kind < KEEP_RECORD || kind > FORGET_RECORD || used + length > BYTES) {
                return 0;
            }
            int bare = lengthOf(kind, 0);
            if (takesText(kind) ? length < bare : length != bare) {
                return 0;
            }
            int sum = firstCheck();
            for (int i = used; i < used + length - 4; i++) {
                sum = mixed(sum, disk[i]);
            }
            long told = bytesAt(used + length - 4, 4);
            return (int) told == checkWithPlace(sum, used) ? length : 0;
        }

        private long bytesAt(int at, int howMany) {
            long number = 0;
            for (int i = at; i < at + howMany; i++) {
                number = number << 8 | (i >= 0 && i < BYTES ? disk[i] & 255 : 0);
            }
            return number;
        }

        /** A NUMBER of the record here; what stands there instead if it has less, which none looks at. */
        long numberAt(int which) {
            return bytesAt(used + 3 + 8 * which, 8);
        }

        /** Copies the TEXT of the record here: how many bytes. */
        int textInto(byte[] tape) {
            int from = used + 3 + 8 * RECORD_NUMBERS[kindHere() <= FORGET_RECORD ? kindHere() : 0];
            int to = used + lengthHere() - 4;
            int length = 0;
            for (int i = from; i < to && i < BYTES && length < tape.length; i++) {
                tape[length] = disk[i];
                length++;
            }
            return length;
        }
    }
}
