import java.util.Arrays;
import java.util.NoSuchElementException;

/** A payroll driven by rules as text; ../shared/DOC.md says what each call promises. */
public final class PayHouse {
    public static final int NONE = -1;

    private static final int MONTHS = 60;
    private static final int YEAR_MONTHS = 12;
    private static final int PERSONS_MAX = 6;
    private static final int VERSIONS_MAX = 12;
    private static final int STATEMENTS_MAX = 120;
    private static final int SOURCES = 3;
    private static final int RUNS_MAX = 90;
    private static final int WITHHOLDINGS_MAX = 8;
    private static final int PRIORITIES = 10;
    private static final int AUTHORITIES = 4;
    private static final int FILINGS_MAX = 20;
    private static final int ACCOUNTS = 5;
    private static final int TEXT_MAX = 700;
    // Written out, each token of a text can bring one blank of its own.
    private static final int OUTPUT_MAX = 2 * TEXT_MAX;
    private static final int DEFINITIONS_MAX = 16;
    private static final int LINES_MAX = VERSIONS_MAX * DEFINITIONS_MAX;
    // "fact a" and the sign behind it take 7 bytes, so a text asks fewer facts than this.
    private static final int FACTS_MAX = TEXT_MAX / 7 + 1;
    private static final int OPEN_MAX = 10;
    private static final int RATE_MAX = 10000;
    private static final long VALUE_MAX = 100000000000000L;
    private static final long AMOUNT_MAX = 1000000000L;

    private static final int PAY_LINE = 0;
    private static final int HOLD_LINE = 1;
    private static final int COST_LINE = 5;
    private static final int NO_LINE = 9;

    // Tokens: signs of one byte are known by this byte, words by WORD and their place in WORDS.
    private static final int END = 0;
    private static final int BAD = 1;
    private static final int NUMBER = 2;
    private static final int NAME = 3;
    private static final int LESS_EQUAL = 4;
    private static final int SAME = 5;
    private static final int WORD = 10;
    private static final int WORD_PAY = 10;
    private static final int WORD_HOLD = 11;
    private static final int WORD_COST = 12;
    private static final int WORD_IF = 13;
    private static final int WORD_THEN = 14;
    private static final int WORD_ELSE = 15;
    private static final int WORD_OR = 16;
    private static final int WORD_AND = 17;
    private static final int WORD_NOT = 18;
    private static final int WORD_FACT = 19;
    private static final int WORD_LAST = 20;
    private static final int WORD_YEAR = 21;
    private static final int WORD_MONTH = 22;
    private static final int WORD_MIN = 23;
    private static final int WORD_MAX = 24;
    private static final int WORD_PART = 25;
    private static final int WORD_BANDS = 26;
    // The words as names are told: their letters as bytes.
    private static final long[] WORDS = {
        0x706179L, 0x686f6c64L, 0x636f7374L, 0x6966L, 0x7468656eL, 0x656c7365L, 0x6f72L, 0x616e64L,
        0x6e6f74L, 0x66616374L, 0x6c617374L, 0x79656172L, 0x6d6f6e7468L, 0x6d696eL, 0x6d6178L,
        0x70617274L, 0x62616e6473L
    };
    private static final long NAME_NONE = 0x6e6f6e65L;

    // What a definition is worked out by: steps over a stack of numbers.
    private static final int OP_END = 0;
    private static final int OP_NUMBER = 1;
    private static final int OP_MONTH = 2;
    private static final int OP_NAME = 3;
    private static final int OP_FACT = 4;
    private static final int OP_LAST = 5;
    private static final int OP_YEAR = 6;
    private static final int OP_NEGATE = 7;
    private static final int OP_ADD = 8;
    private static final int OP_SUBTRACT = 9;
    private static final int OP_MULTIPLY = 10;
    private static final int OP_MIN = 11;
    private static final int OP_MAX = 12;
    private static final int OP_PART = 13;
    private static final int OP_BANDS = 14;
    private static final int OP_LESS = 15;
    private static final int OP_LESS_EQUAL = 16;
    private static final int OP_SAME = 17;
    private static final int OP_NOT = 18;
    private static final int OP_OR = 19;
    private static final int OP_AND = 20;
    private static final int OP_JUMP = 21;
    private static final int OP_JUMP_UNLESS = 22;

    private static final int CELLS = MONTHS * DEFINITIONS_MAX;
    // A month's waiting numbers each come from a token of its own with a sign behind it.
    private static final int STACK_MAX = MONTHS * TEXT_MAX / 2;
    private static final int STEPS_MAX = 1000000;
    private static final int NO_PLACE = 1000000;

    private final Text text;
    private final Text written;
    private byte[] output;
    private int now;
    private int present;
    private int reach;
    private int latestFault;
    private int personCount;
    private final Version[] versions;
    private int versionCount;
    private final Run[] runs;
    private int runCount;
    private final RuleReader reader;
    private final Facts facts;
    private final Worker worker;
    private final Ledger ledger;
    private final Books books;
    private final long[] sums;

    public PayHouse() {
        text = new Text(TEXT_MAX);
        written = new Text(OUTPUT_MAX);
        output = new byte[0];
        reach = MONTHS - 1;
        versions = new Version[VERSIONS_MAX];
        runs = new Run[RUNS_MAX];
        reader = new RuleReader();
        Facts known = new Facts();
        facts = known;
        worker = new Worker(known);
        ledger = new Ledger();
        books = new Books();
        sums = new long[MONTHS * LINES_MAX];
    }

    // ---- text

    public int type(long bytes) throws IllegalStateException {
        int more = 0;
        for (int shift = 0; shift < 64; shift += 8) {
            if (((bytes >>> shift) & 255) != 0) {
                more++;
            }
        }
        if (text.length + more > TEXT_MAX) {
            throw new IllegalStateException("the text would be too long");
        }
        text.putBytes(bytes);
        return text.length;
    }

    public int outputByte(int index) {
        if (index < 0 || index >= output.length) {
            return NONE;
        }
        return output[index] & 255;
    }

    // ---- rules

    public int load(int month) throws IndexOutOfBoundsException, IllegalStateException {
        needMonth(month);
        if (versionCount >= VERSIONS_MAX) {
            throw new IllegalStateException("there are 12 versions");
        }
        latestFault = reader.read(text.bytes, text.length);
        text.length = 0;
        if (latestFault != 0) {
            return -3 - reader.place;
        }
        reader.writeTo(written);
        now++;
        Version version = new Version(reader, written, versionCount, month, now);
        ledger.addLines(version);
        versions[versionCount] = version;
        versionCount++;
        return version.number;
    }

    public int faultKind() {
        return latestFault;
    }

    public int versionInForce(int month, int moment)
            throws IndexOutOfBoundsException, IllegalArgumentException {
        needMonth(month);
        needMoment(moment);
        Version version = Version.inForce(versions, versionCount, month, moment);
        return version == null ? NONE : version.number;
    }

    public int definitions(int version) throws IndexOutOfBoundsException {
        return existingVersion(version).count;
    }

    public long definedName(int version, int index)
            throws IndexOutOfBoundsException, NoSuchElementException {
        Version defining = existingVersion(version);
        if (index < 0 || index >= defining.count) {
            throw new NoSuchElementException("no such definition");
        }
        return defining.names[index];
    }

    public int lineKind(int version, long name)
            throws IndexOutOfBoundsException, IllegalArgumentException {
        Version defining = existingVersion(version);
        needName(name);
        int definition = defining.indexOf(name);
        return definition < 0 ? NONE : defining.kinds[definition];
    }

    public int write(int version) throws IndexOutOfBoundsException {
        output = existingVersion(version).text;
        return output.length;
    }

    public long value(int person, long name, int month, int moment)
            throws IndexOutOfBoundsException, IllegalArgumentException {
        needPerson(person);
        needMonth(month);
        needName(name);
        needMoment(moment);
        beginWork(person, moment);
        return worker.cellValue(month, worker.definitionNamed(month, name));
    }

    public long valueIf(int person, long name, int month, long fact, int factMonth, long value)
            throws IndexOutOfBoundsException, IllegalArgumentException {
        needPerson(person);
        needMonth(month);
        needMonth(factMonth);
        needName(name);
        needName(fact);
        needRange(value, -AMOUNT_MAX, AMOUNT_MAX);
        beginWork(person, now);
        worker.suppose(fact, factMonth, value);
        return worker.cellValue(month, worker.definitionNamed(month, name));
    }

    public int explained(int person, long name, int month)
            throws IndexOutOfBoundsException, IllegalArgumentException {
        explain(person, name, month);
        return worker.countAsked();
    }

    public int explainedMonth(int person, long name, int month, int index)
            throws IndexOutOfBoundsException, IllegalArgumentException, NoSuchElementException {
        explain(person, name, month);
        return askedAt(index) / FACTS_MAX;
    }

    public long explainedName(int person, long name, int month, int index)
            throws IndexOutOfBoundsException, IllegalArgumentException, NoSuchElementException {
        explain(person, name, month);
        return worker.askedName(askedAt(index));
    }

    private void explain(int person, long name, int month) {
        needPerson(person);
        needMonth(month);
        needName(name);
        beginWork(person, now);
        worker.cellValue(month, worker.definitionNamed(month, name));
    }

    private int askedAt(int index) {
        int asked = worker.findAsked(index);
        if (asked < 0) {
            throw new NoSuchElementException("no such fact");
        }
        return asked;
    }

    private void beginWork(int person, int moment) {
        worker.begin(person, moment);
        worker.takeVersions(versions, versionCount);
    }

    // ---- facts

    public int person() throws IllegalStateException {
        if (personCount >= PERSONS_MAX) {
            throw new IllegalStateException("there are 6 persons");
        }
        personCount++;
        return personCount - 1;
    }

    public int moment() {
        return now;
    }

    public int tell(int person, long name, int source, int from, int to, int value)
            throws IndexOutOfBoundsException, IllegalArgumentException, IllegalStateException {
        needStatement(person, name, source, from, to);
        needRange(value, -AMOUNT_MAX, AMOUNT_MAX);
        needRoomForStatement();
        Statement statement = new Statement(person, name, source, from, to);
        statement.tells = true;
        statement.told = value;
        now++;
        facts.add(statement, now);
        return now;
    }

    public int withdraw(int person, long name, int source, int from, int to)
            throws IndexOutOfBoundsException, IllegalArgumentException, IllegalStateException {
        needStatement(person, name, source, from, to);
        needRoomForStatement();
        now++;
        facts.add(new Statement(person, name, source, from, to), now);
        return now;
    }

    public int takeBack(int moment) throws IllegalArgumentException, IllegalStateException {
        Statement statement = facts.knownFrom(moment);
        if (statement == null) {
            throw new IllegalArgumentException("no statement became known then");
        }
        if (statement.takenBackFrom != 0) {
            throw new IllegalStateException("it was taken back already");
        }
        needRoomForStatement();
        now++;
        statement.takenBackFrom = now;
        facts.made++;
        return now;
    }

    public int tellText() {
        int count = facts.read(text.bytes, text.length, personCount);
        text.length = 0;
        if (count >= 0) {
            facts.makeStatements(count, now);
            now += count;
        }
        return count;
    }

    public long factAt(int person, long name, int month, int moment)
            throws IndexOutOfBoundsException, IllegalArgumentException {
        Statement giving = givingStatement(person, name, month, moment);
        return giving == null ? 0 : giving.told;
    }

    public int sourceAt(int person, long name, int month, int moment)
            throws IndexOutOfBoundsException, IllegalArgumentException {
        Statement giving = givingStatement(person, name, month, moment);
        return giving == null ? NONE : giving.source;
    }

    public int pieces(int person, long name, int moment)
            throws IndexOutOfBoundsException, IllegalArgumentException {
        needPerson(person);
        needName(name);
        needMoment(moment);
        int spans = 1;
        Statement before = facts.giving(person, name, 0, moment);
        for (int month = 1; month < MONTHS; month++) {
            Statement giving = facts.giving(person, name, month, moment);
            if (!Facts.alike(before, giving)) {
                spans++;
            }
            before = giving;
        }
        return spans;
    }

    public int changes(int person, long name, int month)
            throws IndexOutOfBoundsException, IllegalArgumentException {
        needPerson(person);
        needMonth(month);
        needName(name);
        int count = 0;
        Statement before = null;
        for (int moment = 1; moment <= now; moment++) {
            Statement giving = facts.giving(person, name, month, moment);
            if (!Facts.alike(before, giving)) {
                count++;
            }
            before = giving;
        }
        return count;
    }

    public int firstChange(int person, int moment, int later)
            throws IndexOutOfBoundsException, IllegalArgumentException {
        needPerson(person);
        needMoment(moment);
        needMoment(later);
        int first = facts.firstDifference(person, moment, later);
        return first >= MONTHS ? NONE : first;
    }

    private Statement givingStatement(int person, long name, int month, int moment) {
        needPerson(person);
        needMonth(month);
        needName(name);
        needMoment(moment);
        return facts.giving(person, name, month, moment);
    }

    private void needStatement(int person, long name, int source, int from, int to) {
        needPerson(person);
        needMonth(from);
        needMonth(to);
        needName(name);
        needRange(source, 0, SOURCES - 1);
        needRange(to, from, MONTHS - 1);
    }

    private void needRoomForStatement() {
        if (facts.made >= STATEMENTS_MAX) {
            throw new IllegalStateException("there are 120 statements");
        }
    }

    // ---- runs

    public int presentMonth() {
        return present;
    }

    public int setReach(int months) throws IllegalArgumentException {
        needRange(months, 0, MONTHS - 1);
        int before = reach;
        reach = months;
        return before;
    }

    public int run() throws IllegalStateException {
        if (present >= MONTHS) {
            throw new IllegalStateException("the present month is 60");
        }
        needRoomForRun();
        Run made = makeRun(NONE, present);
        for (int person = 0; person < personCount; person++) {
            makePayments(made, person);
        }
        present++;
        return runCount - 1;
    }

    public int correct(int person) throws IndexOutOfBoundsException, IllegalStateException {
        needPerson(person);
        if (present == 0) {
            throw new IllegalStateException("the present month is 0");
        }
        needRoomForRun();
        makePayments(makeRun(person, present - 1), person);
        return runCount - 1;
    }

    public int entries(int run, int person) throws IndexOutOfBoundsException {
        Run slips = existingSlip(run, person);
        return slips.starts[person + 1] - slips.starts[person];
    }

    public long entryAt(int run, int person, int index, int what)
            throws IndexOutOfBoundsException, IllegalArgumentException, NoSuchElementException {
        Run slips = existingSlip(run, person);
        needRange(what, 0, 3);
        int count = slips.starts[person + 1] - slips.starts[person];
        if (index < 0 || index >= count) {
            throw new NoSuchElementException("no such entry");
        }
        int entry = slips.starts[person] + index;
        switch (what) {
            case 0:
                return ledger.monthOf(entry);
            case 1:
                return ledger.lineNames[ledger.lineOf(entry)];
            case 2:
                return ledger.kindOf(entry);
            default:
                return ledger.differenceOf(entry);
        }
    }

    public long net(int run, int person) throws IndexOutOfBoundsException {
        return netBefore(existingSlip(run, person), person, MONTHS);
    }

    public long lateNet(int run, int person) throws IndexOutOfBoundsException {
        Run slips = existingSlip(run, person);
        return netBefore(slips, person, slips.lastMonth);
    }

    public long settled(int person, long name, int kind, int month)
            throws IndexOutOfBoundsException, IllegalArgumentException {
        needPerson(person);
        needMonth(month);
        needName(name);
        needRange(kind, 0, NO_LINE - 1);
        int line = ledger.findLine(name, kind);
        return ledger.amountOf(line, person, month);
    }

    public int again(int run, int person) throws IndexOutOfBoundsException {
        existingSlip(run, person);
        return differencesAnew(run, person);
    }

    private void needRoomForRun() {
        if (runCount >= RUNS_MAX) {
            throw new IllegalStateException("there are 90 runs");
        }
    }

    private Run makeRun(int corrected, int lastMonth) {
        Run made = new Run(now, personCount, corrected);
        made.firstMonth = Math.max(0, present - reach);
        made.lastMonth = lastMonth;
        for (int person = 0; person < PERSONS_MAX; person++) {
            made.starts[person] = ledger.count;
            if (made.concerns(person)) {
                settleMonths(made, person);
            }
        }
        made.starts[PERSONS_MAX] = ledger.count;
        runs[runCount] = made;
        runCount++;
        return made;
    }

    private void settleMonths(Run made, int person) {
        beginWork(person, now);
        for (int month = made.firstMonth; month <= made.lastMonth; month++) {
            // A line that is not in the version has the due amount 0: if its settled amount is 0
            // too, this makes no entry, so that every known line can be asked.
            for (int rank = 0; rank < ledger.lineCount; rank++) {
                int line = ledger.ranked[rank];
                long due = worker.cellValue(month, worker.definitionOf(month, line));
                long difference = due - ledger.amountOf(line, person, month);
                if (difference != 0) {
                    ledger.settle(line, person, month, due);
                    ledger.addEntry(month, line, difference);
                    books.bookEntry(ledger.lineKinds[line], difference);
                }
            }
        }
    }

    private long netBefore(Run slips, int person, int month) {
        long sum = 0;
        for (int entry = slips.starts[person]; entry < slips.starts[person + 1]; entry++) {
            if (ledger.monthOf(entry) < month) {
                sum += ledger.netShare(entry);
            }
        }
        return sum;
    }

    private int differencesAnew(int run, int person) {
        Run slips = runs[run];
        if (slips == null || !slips.concerns(person)) {
            return 0;
        }
        clearSums(slips.firstMonth, slips.lastMonth);
        for (int earlier = 0; earlier < run; earlier++) {
            addSlip(runs[earlier], person, -1);
        }
        beginWork(person, slips.moment);
        for (int month = slips.firstMonth; month <= slips.lastMonth; month++) {
            for (int line = 0; line < ledger.lineCount; line++) {
                sums[month * LINES_MAX + line] +=
                        worker.cellValue(month, worker.definitionOf(month, line));
            }
        }
        return unmatched(slips, person);
    }

    // The sums hold, for the months of the run, the differences worked out anew.
    private int unmatched(Run slips, int person) {
        int count = 0;
        for (int entry = slips.starts[person]; entry < slips.starts[person + 1]; entry++) {
            int key = ledger.keyOf(entry);
            if (sums[key] == ledger.differenceOf(entry)) {
                sums[key] = 0;
            } else {
                count++;
            }
        }
        for (int month = slips.firstMonth; month <= slips.lastMonth; month++) {
            for (int line = 0; line < ledger.lineCount; line++) {
                if (sums[month * LINES_MAX + line] != 0) {
                    count++;
                }
            }
        }
        return count;
    }

    // Only these months of the known lines are looked at afterwards.
    private void clearSums(int firstMonth, int lastMonth) {
        for (int month = firstMonth; month <= lastMonth; month++) {
            for (int line = 0; line < ledger.lineCount; line++) {
                sums[month * LINES_MAX + line] = 0;
            }
        }
    }

    private void addSlip(Run slips, int person, int factor) {
        if (slips == null) {
            return;
        }
        for (int entry = slips.starts[person]; entry < slips.starts[person + 1]; entry++) {
            sums[ledger.keyOf(entry)] += factor * ledger.differenceOf(entry);
        }
    }

    // ---- payments

    public long setProtected(int person, long amount)
            throws IndexOutOfBoundsException, IllegalArgumentException {
        needPerson(person);
        needRange(amount, 0, AMOUNT_MAX);
        long before = books.shielded[person];
        books.shielded[person] = amount;
        return before;
    }

    public int withhold(int person, int priority, long amount, long most)
            throws IndexOutOfBoundsException, IllegalArgumentException, IllegalStateException {
        needPerson(person);
        needRange(priority, 0, PRIORITIES - 1);
        needRange(amount, 1, AMOUNT_MAX);
        needRange(most, 1, AMOUNT_MAX);
        if (books.withholdingCount >= WITHHOLDINGS_MAX) {
            throw new IllegalStateException("there are 8 withholdings");
        }
        return books.addWithholding(new Withholding(person, priority, amount, most));
    }

    public long restOf(int withholding) throws IndexOutOfBoundsException {
        Withholding existing = books.withholdingAt(withholding);
        if (existing == null) {
            throw new IndexOutOfBoundsException("no such withholding");
        }
        return existing.rest;
    }

    public long advance(int person, long amount)
            throws IndexOutOfBoundsException, IllegalArgumentException {
        needPerson(person);
        needRange(amount, 1, AMOUNT_MAX);
        books.bank -= amount;
        books.claims[person] += amount;
        return books.claims[person];
    }

    public long claim(int person) throws IndexOutOfBoundsException {
        needPerson(person);
        return books.claims[person];
    }

    public long payout(int run, int person) throws IndexOutOfBoundsException {
        return existingSlip(run, person).payouts[person];
    }

    public long comeBack(int run, int person)
            throws IndexOutOfBoundsException, IllegalStateException {
        Run slips = existingSlip(run, person);
        if (slips.payouts[person] == 0 || slips.cameBack[person]) {
            throw new IllegalStateException("nothing can come back");
        }
        slips.cameBack[person] = true;
        books.bank += slips.payouts[person];
        books.waiting[person] += slips.payouts[person];
        return books.waiting[person];
    }

    public long owed(int authority) throws IndexOutOfBoundsException {
        needAuthority(authority);
        return books.owing[authority];
    }

    public int file(int authority) throws IndexOutOfBoundsException, IllegalStateException {
        needAuthority(authority);
        if (books.filingCounts[authority] >= FILINGS_MAX) {
            throw new IllegalStateException("it has 20 filings");
        }
        int filing = books.filingCounts[authority];
        for (int month = 0; month < MONTHS; month++) {
            books.filings[Books.placeOf(authority, filing, month)] =
                    ledger.settledFor(authority, month) - books.filedBefore(authority, month);
        }
        books.filingCounts[authority]++;
        books.runsFiled[authority] = runCount;
        return books.filingCounts[authority];
    }

    public long filed(int authority, int filing, int month)
            throws IndexOutOfBoundsException, NoSuchElementException {
        needAuthority(authority);
        needMonth(month);
        if (filing < 0 || filing >= books.filingCounts[authority]) {
            throw new NoSuchElementException("no such filing");
        }
        return books.filings[Books.placeOf(authority, filing, month)];
    }

    public long remit(int authority, long amount)
            throws IndexOutOfBoundsException, IllegalArgumentException, IllegalStateException {
        needAuthority(authority);
        needRange(amount, 1, AMOUNT_MAX);
        if (books.owing[authority] < amount) {
            throw new IllegalStateException("less is owed");
        }
        books.bank -= amount;
        books.owing[authority] -= amount;
        return books.owing[authority];
    }

    public long balance(int account) throws IllegalArgumentException {
        needRange(account, 0, ACCOUNTS - 1);
        return books.balanceOf(account);
    }

    private void makePayments(Run made, int person) {
        long net = netBefore(made, person, MONTHS);
        made.payouts[person] = books.pay(person, net, made.corrected == NONE);
    }

    // ---- checks

    public long checksum() {
        long sum = 31L * now + present;
        for (int person = 0; person < personCount; person++) {
            sum = 31 * sum + books.claims[person];
            sum = 31 * sum + books.waiting[person];
            sum = 31 * sum + ledger.settledPay(person);
        }
        for (int i = 0; i < books.withholdingCount; i++) {
            Withholding next = books.withholdingAt(i);
            sum = 31 * sum + (next == null ? 0 : next.rest);
        }
        return 31 * sum + books.bank;
    }

    public double meanNet(int run) throws IndexOutOfBoundsException {
        Run slips = existingRun(run);
        if (slips.persons == 0) {
            return 0.0;
        }
        long sum = 0;
        for (int person = 0; person < slips.persons; person++) {
            sum += netBefore(slips, person, MONTHS);
        }
        return (double) sum / (double) slips.persons;
    }

    public float lateShare() {
        if (ledger.count == 0) {
            return 0.0f;
        }
        int late = 0;
        for (int run = 0; run < runCount; run++) {
            late += lateEntries(runs[run]);
        }
        return (float) late / (float) ledger.count;
    }

    private int lateEntries(Run slips) {
        if (slips == null) {
            return 0;
        }
        int late = 0;
        for (int entry = slips.starts[0]; entry < slips.starts[PERSONS_MAX]; entry++) {
            if (ledger.monthOf(entry) < slips.lastMonth) {
                late++;
            }
        }
        return late;
    }

    public int errors() {
        int count = 0;
        for (int person = 0; person < personCount; person++) {
            count += wrongSettlements(person);
            for (int run = 0; run < runCount; run++) {
                if (differencesAnew(run, person) != 0) {
                    count++;
                }
            }
        }
        for (int version = 0; version < versionCount; version++) {
            if (!readsAgain(versions[version])) {
                count++;
            }
        }
        for (int authority = 0; authority < AUTHORITIES; authority++) {
            if (filesWrongly(authority)) {
                count++;
            }
        }
        long all = 0;
        for (int account = 0; account < ACCOUNTS; account++) {
            all += books.balanceOf(account);
        }
        return all == 0 ? count : count + 1;
    }

    private int wrongSettlements(int person) {
        clearSums(0, MONTHS - 1);
        for (int run = 0; run < runCount; run++) {
            addSlip(runs[run], person, 1);
        }
        int count = 0;
        for (int line = 0; line < ledger.lineCount; line++) {
            for (int month = 0; month < MONTHS; month++) {
                if (sums[month * LINES_MAX + line] != ledger.amountOf(line, person, month)) {
                    count++;
                }
            }
        }
        return count;
    }

    private boolean readsAgain(Version version) {
        if (version == null) {
            return false;
        }
        if (reader.read(version.text, version.text.length) != 0) {
            return false;
        }
        reader.writeTo(written);
        if (written.length != version.text.length) {
            return false;
        }
        for (int i = 0; i < written.length; i++) {
            if (written.bytes[i] != version.text[i]) {
                return false;
            }
        }
        return true;
    }

    private boolean filesWrongly(int authority) {
        if (books.filingCounts[authority] == 0) {
            return false;
        }
        for (int month = 0; month < MONTHS; month++) {
            sums[month] = 0;
        }
        for (int run = 0; run < books.runsFiled[authority] && run < runCount; run++) {
            addForAuthority(runs[run], authority);
        }
        for (int month = 0; month < MONTHS; month++) {
            if (sums[month] != books.filedBefore(authority, month)) {
                return true;
            }
        }
        return false;
    }

    // Here the sums are those of the months.
    private void addForAuthority(Run slips, int authority) {
        if (slips == null) {
            return;
        }
        for (int entry = slips.starts[0]; entry < slips.starts[PERSONS_MAX]; entry++) {
            if (authorityOf(ledger.kindOf(entry)) == authority) {
                sums[ledger.monthOf(entry)] += ledger.differenceOf(entry);
            }
        }
    }

    // ---- what several calls ask of their parameters

    private void needPerson(int person) {
        if (person < 0 || person >= personCount) {
            throw new IndexOutOfBoundsException("no such person");
        }
    }

    private void needMonth(int month) {
        if (month < 0 || month >= MONTHS) {
            throw new IndexOutOfBoundsException("no such month");
        }
    }

    private void needAuthority(int authority) {
        if (authority < 0 || authority >= AUTHORITIES) {
            throw new IndexOutOfBoundsException("no such authority");
        }
    }

    private void needMoment(int moment) {
        needRange(moment, 0, now);
    }

    private void needRange(long number, long least, long most) {
        if (number < least || number > most) {
            throw new IllegalArgumentException("a parameter is out of its range");
        }
    }

    private void needName(long name) {
        if (!isName(name)) {
            throw new IllegalArgumentException("this number is no name");
        }
    }

    private Version existingVersion(int version) {
        Version existing = version < 0 || version >= versionCount ? null : versions[version];
        if (existing == null) {
            throw new IndexOutOfBoundsException("no such version");
        }
        return existing;
    }

    private Run existingRun(int run) {
        Run existing = run < 0 || run >= runCount ? null : runs[run];
        if (existing == null) {
            throw new IndexOutOfBoundsException("no such run");
        }
        return existing;
    }

    private Run existingSlip(int run, int person) {
        Run slips = existingRun(run);
        needPerson(person);
        return slips;
    }

    // ---- names and kinds

    private static boolean isName(long name) {
        if (name <= 0) {
            return false;
        }
        long rest = name;
        for (int i = 0; i < 8 && rest != 0; i++) {
            if (!isLetter((int) (rest & 255))) {
                return false;
            }
            rest >>>= 8;
        }
        return wordOf(name) < 0;
    }

    private static int wordOf(long letters) {
        for (int i = 0; i < WORDS.length; i++) {
            if (WORDS[i] == letters) {
                return i;
            }
        }
        return -1;
    }

    private static boolean isLetter(int sign) {
        return sign >= 'a' && sign <= 'z';
    }

    private static boolean isDigit(int sign) {
        return sign >= '0' && sign <= '9';
    }

    private static boolean isAhead(long name, long other) {
        return fromTheLeft(name) < fromTheLeft(other);
    }

    // With the first letter in the highest byte, names as numbers stand as in a dictionary.
    private static long fromTheLeft(long name) {
        long moved = name;
        for (int i = 0; i < 7 && (moved >>> 56) == 0; i++) {
            moved <<= 8;
        }
        return moved;
    }

    private static int authorityOf(int kind) {
        if (kind >= COST_LINE) {
            return kind - COST_LINE;
        }
        return kind >= HOLD_LINE ? kind - HOLD_LINE : NONE;
    }

    /** Bytes of a text, with room for a number of them that is set once. */
    private static final class Text {
        final byte[] bytes;
        int length;

        Text(int room) {
            bytes = new byte[Math.max(0, room)];
        }

        void put(int sign) {
            if (length >= 0 && length < bytes.length) {
                bytes[length] = (byte) sign;
                length++;
            }
        }

        void putBytes(long number) {
            for (int shift = 56; shift >= 0; shift -= 8) {
                int sign = (int) ((number >>> shift) & 255);
                if (sign != 0) {
                    put(sign);
                }
            }
        }

        void putNumber(int number) {
            boolean begun = false;
            for (int unit = 100000000; unit > 0; unit /= 10) {
                int digit = number / unit % 10;
                begun = begun || digit != 0 || unit == 1;
                if (begun) {
                    put('0' + digit);
                }
            }
        }
    }

    /** The tokens of a text of rules or of facts, all read at once and then looked at one by one. */
    private static final class Tokens {
        private byte[] bytes;
        private int length;
        private int end;
        private final int[] kinds;
        private final int[] starts;
        private final long[] contents;
        private int at;
        int kind;
        int start;
        int number;
        long letters;

        Tokens() {
            bytes = new byte[0];
            kinds = new int[OUTPUT_MAX + 1];
            starts = new int[OUTPUT_MAX + 1];
            contents = new long[OUTPUT_MAX + 1];
        }

        void read(byte[] source, int sourceLength) {
            bytes = source;
            length = Math.min(sourceLength, Math.min(source.length, OUTPUT_MAX));
            end = 0;
            kind = BAD;
            for (int i = 0; i < kinds.length && kind != END; i++) {
                readToken();
                kinds[i] = kind;
                starts[i] = start;
                contents[i] = kind == NUMBER ? number : letters;
            }
            rewind();
        }

        void rewind() {
            at = -1;
            next();
        }

        void next() {
            if (at < 0 || kind != END && at + 1 < kinds.length) {
                at++;
            }
            kind = kinds[at];
            start = starts[at];
            letters = contents[at];
            number = (int) letters;
        }

        private void readToken() {
            for (int i = end; i < length && bytes[i] == ' '; i++) {
                end = i + 1;
            }
            start = end;
            int sign = end < length ? bytes[end] & 255 : -1;
            if (sign < 0) {
                kind = END;
            } else if (isLetter(sign)) {
                readLetters();
            } else if (isDigit(sign)) {
                readDigits();
            } else {
                readSign(sign);
            }
        }

        private void readLetters() {
            letters = 0;
            for (int i = end; i < length && isLetter(bytes[i] & 255); i++) {
                letters = letters << 8 | bytes[i] & 255;
                end = i + 1;
            }
            int word = wordOf(letters);
            if (end - start > 8) {
                kind = BAD;
            } else {
                kind = word < 0 ? NAME : WORD + word;
            }
        }

        private void readDigits() {
            number = 0;
            for (int i = end; i < length && isDigit(bytes[i] & 255); i++) {
                number = number * 10 + (bytes[i] & 255) - '0';
                end = i + 1;
            }
            kind = end - start > 9 ? BAD : NUMBER;
        }

        private void readSign(int sign) {
            end++;
            boolean equalsNext = end < length && bytes[end] == '=';
            switch (sign) {
                case '<':
                case '=':
                    kind = sign;
                    if (equalsNext) {
                        kind = sign == '<' ? LESS_EQUAL : SAME;
                        end++;
                    }
                    break;
                case ';':
                case '+':
                case '-':
                case '*':
                case '(':
                case ')':
                case '[':
                case ']':
                case ',':
                case ':':
                    kind = sign;
                    break;
                default:
                    kind = BAD;
            }
        }

        /** Writes the tokens out, of which none may be bad. */
        void writeTo(Text target) {
            target.length = 0;
            boolean plainBefore = false;
            rewind();
            for (int turn = 0; turn <= OUTPUT_MAX && kind != END; turn++) {
                boolean ofLetters = kind == NAME || kind >= WORD && kind < WORD + WORDS.length;
                boolean plain = ofLetters || kind == NUMBER;
                if (plain && plainBefore) {
                    target.put(' ');
                }
                if (ofLetters) {
                    target.putBytes(letters);
                } else if (plain) {
                    target.putNumber(number);
                } else {
                    writeSign(target);
                }
                plainBefore = plain;
                next();
            }
        }

        private void writeSign(Text target) {
            if (kind == LESS_EQUAL || kind == SAME) {
                target.put(kind == SAME ? '=' : '<');
                target.put('=');
            } else {
                target.put(kind);
            }
        }
    }

    /** Reads a text of rules, finds its first fault, and makes steps of its definitions. */
    private static final class RuleReader {
        private final Tokens tokens;
        int place;
        private int secondPlace;
        private int open;
        private int count;
        private final long[] names;
        private final int[] places;
        private final int[] kinds;
        private final int[] starts;
        private int size;
        private final int[] ops;
        private final int[] args;
        private int referenceCount;
        private final long[] referenceNames;
        private final int[] referencePlaces;
        private final int[] referenceSteps;
        private final int[] referenceOwners;
        private int factCount;
        private final long[] factNames;
        private final int[] hangsOn;

        RuleReader() {
            tokens = new Tokens();
            names = new long[DEFINITIONS_MAX];
            places = new int[DEFINITIONS_MAX];
            kinds = new int[DEFINITIONS_MAX];
            starts = new int[DEFINITIONS_MAX];
            ops = new int[OUTPUT_MAX];
            args = new int[OUTPUT_MAX];
            referenceNames = new long[TEXT_MAX];
            referencePlaces = new int[TEXT_MAX];
            referenceSteps = new int[TEXT_MAX];
            referenceOwners = new int[TEXT_MAX];
            factNames = new long[FACTS_MAX];
            hangsOn = new int[DEFINITIONS_MAX];
        }

        /** Answers the kind of the text's fault, whose place is told by place, or 0. */
        int read(byte[] text, int length) {
            tokens.read(text, length);
            place = 0;
            secondPlace = NO_PLACE;
            open = 0;
            count = 0;
            size = 0;
            referenceCount = 0;
            factCount = 0;
            for (int turn = 0; turn < OUTPUT_MAX && tokens.kind != END; turn++) {
                if (!readDefinition()) {
                    return 1;
                }
            }
            resolveReferences();
            if (secondPlace != NO_PLACE) {
                place = secondPlace;
                return 2;
            }
            int circle = firstCircle();
            if (circle >= 0) {
                place = places[circle];
                return 3;
            }
            return 0;
        }

        /** Writes out what was read, which must be without a fault. */
        void writeTo(Text target) {
            tokens.writeTo(target);
        }

        private boolean readDefinition() {
            int kind = NO_LINE;
            if (tokens.kind == WORD_PAY) {
                kind = PAY_LINE;
                tokens.next();
            } else if (tokens.kind == WORD_HOLD || tokens.kind == WORD_COST) {
                kind = tokens.kind == WORD_HOLD ? HOLD_LINE : COST_LINE;
                tokens.next();
                if (tokens.kind != NUMBER || tokens.number >= AUTHORITIES) {
                    return refuse();
                }
                kind += tokens.number;
                tokens.next();
            }
            if (tokens.kind != NAME || count >= DEFINITIONS_MAX) {
                return refuse();
            }
            define(kind);
            if (!expect('=') || !readValue() || !expect(';')) {
                return false;
            }
            addStep(OP_END, 0);
            return true;
        }

        private void define(int kind) {
            if (indexOf(tokens.letters) >= 0) {
                noteSecond(tokens.start);
            }
            if (count < DEFINITIONS_MAX) {
                names[count] = tokens.letters;
                places[count] = tokens.start;
                kinds[count] = kind;
                starts[count] = size;
                count++;
            }
            tokens.next();
        }

        private int indexOf(long name) {
            for (int i = 0; i < count; i++) {
                if (names[i] == name) {
                    return i;
                }
            }
            return -1;
        }

        private boolean refuse() {
            place = tokens.start;
            return false;
        }

        private boolean expect(int kind) {
            if (tokens.kind != kind) {
                return refuse();
            }
            tokens.next();
            return true;
        }

        // What is open is counted, so that no text can make the reading deep.
        private boolean openNext() {
            if (open >= OPEN_MAX) {
                return refuse();
            }
            open++;
            tokens.next();
            return true;
        }

        private void noteSecond(int where) {
            if (where < secondPlace) {
                secondPlace = where;
            }
        }

        private int addStep(int op, int arg) {
            if (size < ops.length) {
                ops[size] = op;
                args[size] = arg;
                size++;
            }
            return size - 1;
        }

        private void setArg(int step, int arg) {
            if (step >= 0 && step < size) {
                args[step] = arg;
            }
        }

        private boolean readValue() {
            if (tokens.kind != WORD_IF) {
                return readSum();
            }
            if (!openNext() || !readTest()) {
                return false;
            }
            int toElse = addStep(OP_JUMP_UNLESS, 0);
            if (!expect(WORD_THEN) || !readValue()) {
                return false;
            }
            int toEnd = addStep(OP_JUMP, 0);
            setArg(toElse, size);
            if (!expect(WORD_ELSE) || !readValue()) {
                return false;
            }
            setArg(toEnd, size);
            open--;
            return true;
        }

        private boolean readTest() {
            if (!readAll()) {
                return false;
            }
            for (int turn = 0; turn < OUTPUT_MAX && tokens.kind == WORD_OR; turn++) {
                tokens.next();
                int over = addStep(OP_OR, 0);
                if (!readAll()) {
                    return false;
                }
                setArg(over, size);
            }
            return true;
        }

        private boolean readAll() {
            if (!readOne()) {
                return false;
            }
            for (int turn = 0; turn < OUTPUT_MAX && tokens.kind == WORD_AND; turn++) {
                tokens.next();
                int over = addStep(OP_AND, 0);
                if (!readOne()) {
                    return false;
                }
                setArg(over, size);
            }
            return true;
        }

        private boolean readOne() {
            if (tokens.kind == WORD_NOT) {
                if (!openNext() || !readOne()) {
                    return false;
                }
                addStep(OP_NOT, 0);
                open--;
                return true;
            }
            if (tokens.kind == '[') {
                if (!openNext() || !readTest() || !expect(']')) {
                    return false;
                }
                open--;
                return true;
            }
            return readComparison();
        }

        private boolean readComparison() {
            if (!readSum()) {
                return false;
            }
            int op = OP_LESS;
            if (tokens.kind == LESS_EQUAL) {
                op = OP_LESS_EQUAL;
            } else if (tokens.kind == SAME) {
                op = OP_SAME;
            } else if (tokens.kind != '<') {
                return refuse();
            }
            tokens.next();
            if (!readSum()) {
                return false;
            }
            addStep(op, 0);
            return true;
        }

        private boolean readSum() {
            if (!readTerm()) {
                return false;
            }
            for (int turn = 0; turn < OUTPUT_MAX && (tokens.kind == '+' || tokens.kind == '-'); turn++) {
                int op = tokens.kind == '+' ? OP_ADD : OP_SUBTRACT;
                tokens.next();
                if (!readTerm()) {
                    return false;
                }
                addStep(op, 0);
            }
            return true;
        }

        private boolean readTerm() {
            if (!readUnit()) {
                return false;
            }
            for (int turn = 0; turn < OUTPUT_MAX && tokens.kind == '*'; turn++) {
                tokens.next();
                if (!readUnit()) {
                    return false;
                }
                addStep(OP_MULTIPLY, 0);
            }
            return true;
        }

        private boolean readUnit() {
            switch (tokens.kind) {
                case NUMBER:
                    addStep(OP_NUMBER, tokens.number);
                    tokens.next();
                    return true;
                case NAME:
                    return readReference(OP_NAME);
                case WORD_FACT:
                    tokens.next();
                    return readFact();
                case WORD_LAST:
                    tokens.next();
                    return readReference(OP_LAST);
                case WORD_YEAR:
                    tokens.next();
                    return readReference(OP_YEAR);
                case WORD_MONTH:
                    addStep(OP_MONTH, 0);
                    tokens.next();
                    return true;
                case '-':
                    return readNegated();
                case '(':
                    return readInBrackets();
                case WORD_MIN:
                    return readParts(OP_MIN, 2);
                case WORD_MAX:
                    return readParts(OP_MAX, 2);
                case WORD_PART:
                    return readParts(OP_PART, 3);
                case WORD_BANDS:
                    return readBands();
                default:
                    return refuse();
            }
        }

        private boolean readReference(int op) {
            if (tokens.kind != NAME) {
                return refuse();
            }
            int step = addStep(op, 0);
            if (referenceCount < TEXT_MAX) {
                referenceNames[referenceCount] = tokens.letters;
                referencePlaces[referenceCount] = tokens.start;
                referenceSteps[referenceCount] = step;
                referenceOwners[referenceCount] = count - 1;
                referenceCount++;
            }
            tokens.next();
            return true;
        }

        private boolean readFact() {
            if (tokens.kind != NAME) {
                return refuse();
            }
            int fact = 0;
            while (fact < factCount && factNames[fact] != tokens.letters) {
                fact++;
            }
            if (fact >= FACTS_MAX) {
                return refuse();
            }
            factNames[fact] = tokens.letters;
            factCount = Math.max(factCount, fact + 1);
            addStep(OP_FACT, fact);
            tokens.next();
            return true;
        }

        private boolean readNegated() {
            if (!openNext() || !readUnit()) {
                return false;
            }
            addStep(OP_NEGATE, 0);
            open--;
            return true;
        }

        private boolean readInBrackets() {
            if (!openNext() || !readValue() || !expect(')')) {
                return false;
            }
            open--;
            return true;
        }

        private boolean readParts(int op, int parts) {
            tokens.next();
            if (tokens.kind != '(') {
                return refuse();
            }
            if (!openNext() || !readValue()) {
                return false;
            }
            for (int part = 1; part < parts; part++) {
                if (!expect(',') || !readValue()) {
                    return false;
                }
            }
            if (!expect(')')) {
                return false;
            }
            open--;
            addStep(op, 0);
            return true;
        }

        // Behind the step of bands stands one for each limit, with its rate, and one for the last rate.
        private boolean readBands() {
            tokens.next();
            if (tokens.kind != '(') {
                return refuse();
            }
            if (!openNext() || !readValue()) {
                return false;
            }
            int head = addStep(OP_BANDS, 0);
            int limits = 0;
            int limitAhead = -1;
            for (int turn = 0; turn < OUTPUT_MAX; turn++) {
                if (!expect(',')) {
                    return false;
                }
                if (tokens.kind != NUMBER) {
                    return refuse();
                }
                int number = tokens.number;
                int where = tokens.start;
                tokens.next();
                if (tokens.kind != ':') {
                    setArg(head, limits);
                    return endBands(number, where);
                }
                if (number <= limitAhead) {
                    noteSecond(where);
                }
                limitAhead = number;
                limits++;
                if (!readRate(number)) {
                    return false;
                }
            }
            return refuse();
        }

        private boolean readRate(int limit) {
            tokens.next();
            if (tokens.kind != NUMBER) {
                return refuse();
            }
            if (tokens.number > RATE_MAX) {
                noteSecond(tokens.start);
            }
            addStep(limit, tokens.number);
            tokens.next();
            return true;
        }

        private boolean endBands(int rate, int where) {
            if (rate > RATE_MAX) {
                noteSecond(where);
            }
            addStep(0, rate);
            if (!expect(')')) {
                return false;
            }
            open--;
            return true;
        }

        private void resolveReferences() {
            Arrays.fill(hangsOn, 0);
            for (int i = 0; i < referenceCount; i++) {
                int definition = indexOf(referenceNames[i]);
                int step = referenceSteps[i];
                int owner = referenceOwners[i];
                if (definition < 0) {
                    noteSecond(referencePlaces[i]);
                } else if (step >= 0 && step < size && owner >= 0 && owner < count) {
                    args[step] = definition;
                    if (ops[step] == OP_NAME) {
                        hangsOn[owner] |= 1 << definition;
                    }
                }
            }
        }

        private int firstCircle() {
            for (int by = 0; by < count; by++) {
                for (int from = 0; from < count; from++) {
                    if ((hangsOn[from] >> by & 1) != 0) {
                        hangsOn[from] |= hangsOn[by];
                    }
                }
            }
            for (int i = 0; i < count; i++) {
                if ((hangsOn[i] >> i & 1) != 0) {
                    return i;
                }
            }
            return -1;
        }
    }

    /** A version of the rules: its definitions as steps, and its text as it is written out. */
    private static final class Version {
        final int number;
        final int month;
        final int moment;
        final int count;
        final long[] names;
        final int[] kinds;
        final int[] starts;
        final int[] ops;
        final int[] args;
        private final long[] factNames;
        final int[] factRanks;
        private final int[] definitionsOfLines;
        final byte[] text;

        /** Takes what has been read without a fault, and written out. */
        Version(RuleReader rules, Text written, int number, int month, int moment) {
            this.number = number;
            this.month = month;
            this.moment = moment;
            count = rules.count;
            names = Arrays.copyOf(rules.names, rules.count);
            kinds = Arrays.copyOf(rules.kinds, rules.count);
            starts = Arrays.copyOf(rules.starts, rules.count);
            ops = Arrays.copyOf(rules.ops, rules.size);
            args = Arrays.copyOf(rules.args, rules.size);
            factNames = Arrays.copyOf(rules.factNames, rules.factCount);
            factRanks = ranksOf(rules.factNames, rules.factCount);
            int[] none = new int[LINES_MAX];
            Arrays.fill(none, -1);
            definitionsOfLines = none;
            text = Arrays.copyOf(written.bytes, written.length);
        }

        static Version inForce(Version[] versions, int count, int month, int moment) {
            Version best = null;
            for (int i = 0; i < count && i < versions.length; i++) {
                Version next = versions[i];
                if (next != null && next.moment <= moment && next.month <= month
                        && (best == null || next.month >= best.month)) {
                    best = next;
                }
            }
            return best;
        }

        int indexOf(long name) {
            for (int i = 0; i < count; i++) {
                if (names[i] == name) {
                    return i;
                }
            }
            return -1;
        }

        private static int[] ranksOf(long[] names, int count) {
            int[] ranks = new int[Math.max(0, Math.min(count, names.length))];
            for (int i = 0; i < ranks.length; i++) {
                int rank = i;
                while (rank > 0 && isAhead(names[i], names[ranks[rank - 1]])) {
                    ranks[rank] = ranks[rank - 1];
                    rank--;
                }
                ranks[rank] = i;
            }
            return ranks;
        }

        /** Answers the name of a definition, or 0, which is no name. */
        long nameOf(int definition) {
            return definition < 0 || definition >= names.length ? 0 : names[definition];
        }

        /** Answers the name of a fact, or 0, which is no name. */
        long factNameOf(int fact) {
            return fact < 0 || fact >= factNames.length ? 0 : factNames[fact];
        }

        void setDefinitionOf(int line, int definition) {
            if (line >= 0 && line < definitionsOfLines.length) {
                definitionsOfLines[line] = definition;
            }
        }

        /** Answers the place of the line's definition, or -1. */
        int definitionOf(int line) {
            return line < 0 || line >= definitionsOfLines.length ? -1 : definitionsOfLines[line];
        }

        boolean hasStep(int step) {
            return step >= 0 && step < ops.length && step < args.length;
        }
    }

    /**
     * Works out values for one person as of one moment. A cell is a definition in a month; a step that
     * needs the value of another cell waits until this has been worked out, and is then done again.
     */
    private static final class Worker {
        private final Facts facts;
        private int person;
        private int moment;
        private long supposedFact;
        private int supposedMonth;
        private long supposedValue;
        private final Version[] versions;
        // What bears the present stamp is of the present work; so nothing must be cleared.
        private int stamp;
        private final long[] cells;
        private final int[] cellStamps;
        private final int[] askedStamps;
        private final long[] askedValues;
        private final int[] waitingCells;
        private final int[] waitingSteps;
        private int depth;
        private final long[] stack;
        private int top;

        Worker(Facts known) {
            facts = known;
            versions = new Version[MONTHS];
            cells = new long[CELLS];
            cellStamps = new int[CELLS];
            askedStamps = new int[MONTHS * FACTS_MAX];
            askedValues = new long[MONTHS * FACTS_MAX];
            waitingCells = new int[CELLS];
            waitingSteps = new int[CELLS];
            stack = new long[STACK_MAX];
        }

        void begin(int ofPerson, int asOf) {
            person = ofPerson;
            moment = asOf;
            supposedFact = 0;
            stamp++;
        }

        void takeVersions(Version[] all, int count) {
            for (int month = 0; month < MONTHS; month++) {
                versions[month] = Version.inForce(all, count, month, moment);
            }
        }

        void suppose(long fact, int month, long value) {
            supposedFact = fact;
            supposedMonth = month;
            supposedValue = value;
        }

        private Version versionOf(int month) {
            return month < 0 || month >= MONTHS ? null : versions[month];
        }

        /** Answers the place of the definition in the month's version, or -1. */
        int definitionNamed(int month, long name) {
            Version version = versionOf(month);
            return version == null ? -1 : version.indexOf(name);
        }

        /** Answers the place of the line's definition in the month's version, or -1. */
        int definitionOf(int month, int line) {
            Version version = versionOf(month);
            return version == null ? -1 : version.definitionOf(line);
        }

        private static int cellOf(int month, int definition) {
            if (month < 0 || month >= MONTHS || definition < 0 || definition >= DEFINITIONS_MAX) {
                return -1;
            }
            return month * DEFINITIONS_MAX + definition;
        }

        /** Answers the value of a definition of the month's version, or 0 if there is none. */
        long cellValue(int month, int definition) {
            int cell = cellOf(month, definition);
            if (cell < 0) {
                return 0;
            }
            if (cellStamps[cell] != stamp) {
                depth = 0;
                top = 0;
                await(cell);
                for (int i = 0; i < STEPS_MAX && depth > 0; i++) {
                    doStep();
                }
            }
            return cells[cell];
        }

        private void await(int cell) {
            Version version = cell < 0 || cell >= CELLS ? null : versions[cell / DEFINITIONS_MAX];
            int definition = cell % DEFINITIONS_MAX;
            if (version == null || definition >= version.starts.length || depth >= waitingCells.length) {
                depth = 0;
                return;
            }
            waitingCells[depth] = cell;
            waitingSteps[depth] = version.starts[definition];
            depth++;
        }

        private void doStep() {
            int waiting = depth - 1;
            int cell = waitingCells[waiting];
            int month = cell / DEFINITIONS_MAX;
            Version version = versionOf(month);
            int step = waitingSteps[waiting];
            if (version == null || !version.hasStep(step)) {
                depth = 0;
                return;
            }
            int arg = version.args[step];
            int next = step + 1;
            switch (version.ops[step]) {
                case OP_END:
                    cells[cell] = pop();
                    cellStamps[cell] = stamp;
                    depth--;
                    return;
                case OP_NAME:
                    if (!pushCell(cellOf(month, arg))) {
                        return;
                    }
                    break;
                case OP_LAST:
                    if (!pushCell(cellOf(month - 1, definitionNamed(month - 1, version.nameOf(arg))))) {
                        return;
                    }
                    break;
                case OP_YEAR:
                    if (!pushYear(month, version.nameOf(arg))) {
                        return;
                    }
                    break;
                case OP_FACT:
                    push(askFact(month, arg, version.factNameOf(arg)));
                    break;
                case OP_BANDS:
                    push(bandsOf(pop(), version, step));
                    next = step + arg + 2;
                    break;
                case OP_NUMBER:
                    push(arg);
                    break;
                case OP_MONTH:
                    push(month);
                    break;
                case OP_JUMP:
                case OP_JUMP_UNLESS:
                case OP_OR:
                case OP_AND:
                    next = leaps(version.ops[step]) ? arg : next;
                    break;
                default:
                    combine(version.ops[step], pop());
            }
            waitingSteps[waiting] = next;
        }

        // A test that is known by its left part keeps this answer; another one goes on without it.
        private boolean leaps(int op) {
            if (op == OP_JUMP) {
                return true;
            }
            boolean so = pop() != 0;
            if (op == OP_JUMP_UNLESS) {
                return !so;
            }
            boolean known = so == (op == OP_OR);
            if (known) {
                push(so ? 1 : 0);
            }
            return known;
        }

        private void combine(int op, long right) {
            switch (op) {
                case OP_NEGATE:
                    push(-right);
                    break;
                case OP_NOT:
                    push(1 - right);
                    break;
                case OP_ADD:
                    push(sumOf(pop(), right));
                    break;
                case OP_SUBTRACT:
                    push(sumOf(pop(), -right));
                    break;
                case OP_MULTIPLY:
                    push(productOf(pop(), right));
                    break;
                case OP_PART:
                    long factor = pop();
                    push(quotientOf(productOf(pop(), factor), right));
                    break;
                case OP_MIN:
                    push(Math.min(pop(), right));
                    break;
                case OP_MAX:
                    push(Math.max(pop(), right));
                    break;
                case OP_LESS:
                    push(pop() < right ? 1 : 0);
                    break;
                case OP_LESS_EQUAL:
                    push(pop() <= right ? 1 : 0);
                    break;
                default:
                    push(pop() == right ? 1 : 0);
            }
        }

        private void push(long number) {
            if (top >= 0 && top < stack.length) {
                stack[top] = number;
                top++;
            }
        }

        private long pop() {
            if (top <= 0) {
                return 0;
            }
            top--;
            return stack[top];
        }

        // A cell that is not known yet is awaited; where there is none, the value is 0.
        private boolean pushCell(int cell) {
            if (cell >= 0 && cellStamps[cell] != stamp) {
                await(cell);
                return false;
            }
            push(cell < 0 ? 0 : cells[cell]);
            return true;
        }

        private boolean pushYear(int month, long name) {
            long sum = 0;
            for (int before = month - month % YEAR_MONTHS; before < month; before++) {
                if (!pushCell(cellOf(before, definitionNamed(before, name)))) {
                    return false;
                }
                sum = sumOf(sum, pop());
            }
            push(sum);
            return true;
        }

        private long askFact(int month, int fact, long name) {
            int asked = month * FACTS_MAX + fact;
            if (fact < 0 || fact >= FACTS_MAX || asked < 0 || asked >= askedStamps.length) {
                return 0;
            }
            if (askedStamps[asked] != stamp) {
                askedStamps[asked] = stamp;
                askedValues[asked] = supposedValue;
                if (name != supposedFact || month != supposedMonth) {
                    Statement giving = facts.giving(person, name, month, moment);
                    askedValues[asked] = giving == null ? 0 : giving.told;
                }
            }
            return askedValues[asked];
        }

        private static long bandsOf(long amount, Version version, int step) {
            if (amount <= 0 || !version.hasStep(step)) {
                return 0;
            }
            long sum = 0;
            long done = 0;
            int last = step + version.args[step] + 1;
            for (int band = step + 1; band < last && version.hasStep(band); band++) {
                long upTo = Math.min(amount, version.ops[band]);
                if (upTo > done) {
                    sum += (upTo - done) * version.args[band];
                    done = upTo;
                }
            }
            if (version.hasStep(last)) {
                sum += (amount - done) * version.args[last];
            }
            return sum / RATE_MAX;
        }

        int countAsked() {
            int count = 0;
            for (int i = 0; i < askedStamps.length; i++) {
                if (askedStamps[i] == stamp) {
                    count++;
                }
            }
            return count;
        }

        /** Answers the month times FACTS_MAX and the fact's place in its version, or -1. */
        int findAsked(int index) {
            int left = index;
            for (int month = 0; month < MONTHS && index >= 0; month++) {
                Version version = versionOf(month);
                int count = version == null ? 0 : version.factRanks.length;
                for (int rank = 0; rank < count; rank++) {
                    int asked = month * FACTS_MAX + version.factRanks[rank];
                    if (askedStamps[asked] == stamp) {
                        if (left == 0) {
                            return asked;
                        }
                        left--;
                    }
                }
            }
            return -1;
        }

        long askedName(int asked) {
            Version version = versionOf(asked / FACTS_MAX);
            return version == null ? 0 : version.factNameOf(asked % FACTS_MAX);
        }

        private static long sumOf(long left, long right) {
            long sum = left + right;
            if (sum > VALUE_MAX) {
                return VALUE_MAX;
            }
            return sum < -VALUE_MAX ? -VALUE_MAX : sum;
        }

        private static long productOf(long left, long right) {
            if (left == 0 || right == 0) {
                return 0;
            }
            if (Math.abs(left) > VALUE_MAX / Math.abs(right)) {
                return left < 0 == right < 0 ? VALUE_MAX : -VALUE_MAX;
            }
            return left * right;
        }

        // Rounded to the nearest whole number, halves up.
        private static long quotientOf(long number, long divisor) {
            return divisor <= 0 ? 0 : Math.floorDiv(2 * number + divisor, 2 * divisor);
        }
    }

    /** A statement that tells a value or withdraws what its source told. */
    private static final class Statement {
        int person;
        long name;
        int source;
        int from;
        int to;
        boolean tells;
        int told;
        int knownFrom;
        int takenBackFrom;

        Statement(int person, long name, int source, int from, int to) {
            this.person = person;
            this.name = name;
            this.source = source;
            this.from = from;
            this.to = to;
        }

        boolean spans(int month) {
            return from <= month && month <= to;
        }

        boolean countsAt(int moment) {
            return knownFrom <= moment && (takenBackFrom == 0 || takenBackFrom > moment);
        }
    }

    /** The statements, in the order in which they became known, and the reading of their text. */
    private static final class Facts {
        private final Statement[] statements;
        private int count;
        // Counts those that take back too, which concern the limit but have no place in the list.
        int made;
        private final Tokens tokens;
        private final Statement draft;

        Facts() {
            tokens = new Tokens();
            statements = new Statement[STATEMENTS_MAX];
            draft = new Statement(0, 0, 0, 0, 0);
        }

        void add(Statement statement, int moment) {
            if (count < STATEMENTS_MAX) {
                statement.knownFrom = moment;
                statements[count] = statement;
                count++;
                made++;
            }
        }

        Statement knownFrom(int moment) {
            for (int i = 0; i < count; i++) {
                Statement next = statements[i];
                if (next != null && next.knownFrom == moment) {
                    return next;
                }
            }
            return null;
        }

        /** Answers the statement that gives the fact its value, or null. */
        Statement giving(int person, long name, int month, int moment) {
            Statement best = null;
            int heard = 0;
            for (int i = count - 1; i >= 0; i--) {
                Statement next = statements[i];
                if (next != null && next.name == name && next.person == person && next.spans(month)
                        && (heard >> next.source & 1) == 0 && next.countsAt(moment)) {
                    heard |= 1 << next.source;
                    if (next.tells && (best == null || next.source > best.source)) {
                        best = next;
                    }
                }
            }
            return best;
        }

        static boolean alike(Statement one, Statement other) {
            if (one == null || other == null) {
                return one == other;
            }
            return one.told == other.told;
        }

        // Only where a statement counts as of just one of the moments can a fact differ.
        int firstDifference(int person, int moment, int later) {
            int first = MONTHS;
            for (int i = 0; i < count; i++) {
                Statement next = statements[i];
                if (next != null && next.person == person && next.countsAt(moment) != next.countsAt(later)) {
                    first = firstDifferenceOf(next, moment, later, first);
                }
            }
            return first;
        }

        private int firstDifferenceOf(Statement statement, int moment, int later, int bound) {
            int person = statement.person;
            long name = statement.name;
            for (int month = statement.from; month <= statement.to && month < bound; month++) {
                if (!alike(giving(person, name, month, moment), giving(person, name, month, later))) {
                    return month;
                }
            }
            return bound;
        }

        /** Answers how many statements the text makes, or -3 less the place of its fault. */
        int read(byte[] text, int length, int persons) {
            tokens.read(text, length);
            int found = 0;
            for (int turn = 0; turn <= STATEMENTS_MAX && tokens.kind != END; turn++) {
                if (made + found >= STATEMENTS_MAX || !readStatement(draft, persons)) {
                    return -3 - tokens.start;
                }
                found++;
            }
            return found;
        }

        /** Makes the statements of the text that was read, which must be without a fault. */
        void makeStatements(int number, int moment) {
            tokens.rewind();
            for (int i = 1; i <= number; i++) {
                Statement statement = new Statement(0, 0, 0, 0, 0);
                readStatement(statement, PERSONS_MAX);
                add(statement, moment + i);
            }
        }

        private boolean readStatement(Statement target, int persons) {
            if (!numberStands(0, persons - 1)) {
                return false;
            }
            target.person = takeNumber();
            if (tokens.kind != NAME || tokens.letters == NAME_NONE) {
                return false;
            }
            target.name = tokens.letters;
            tokens.next();
            if (!numberStands(0, SOURCES - 1)) {
                return false;
            }
            target.source = takeNumber();
            if (!numberStands(0, MONTHS - 1)) {
                return false;
            }
            target.from = takeNumber();
            if (!take('-') || !numberStands(target.from, MONTHS - 1)) {
                return false;
            }
            target.to = takeNumber();
            return readTold(target) && take(';');
        }

        private boolean readTold(Statement target) {
            target.tells = tokens.kind == '=';
            if (!target.tells) {
                boolean withdraws = tokens.kind == NAME && tokens.letters == NAME_NONE;
                return withdraws && take(NAME);
            }
            tokens.next();
            boolean below = take('-');
            if (tokens.kind != NUMBER) {
                return false;
            }
            int told = takeNumber();
            target.told = below ? -told : told;
            return true;
        }

        private boolean numberStands(int least, int most) {
            return tokens.kind == NUMBER && tokens.number >= least && tokens.number <= most;
        }

        private int takeNumber() {
            int number = tokens.number;
            tokens.next();
            return number;
        }

        private boolean take(int kind) {
            if (tokens.kind != kind) {
                return false;
            }
            tokens.next();
            return true;
        }
    }

    /** The lines with their settled amounts, and the entries of all slips. */
    private static final class Ledger {
        int lineCount;
        final long[] lineNames;
        final int[] lineKinds;
        // The lines' numbers in the order of names, then of kinds.
        final int[] ranked;
        // The settled amounts, 60 for each person of each line.
        private long[] amounts;
        int count;
        // The month times LINES_MAX and the line's number.
        private int[] keys;
        private long[] differences;

        Ledger() {
            lineNames = new long[LINES_MAX];
            lineKinds = new int[LINES_MAX];
            ranked = new int[LINES_MAX];
            amounts = new long[DEFINITIONS_MAX * PERSONS_MAX * MONTHS];
            keys = new int[256];
            differences = new long[256];
        }

        private static int placeOf(int line, int person, int month) {
            return (line * PERSONS_MAX + person) * MONTHS + month;
        }

        /** Answers a settled amount; 0 if there is no such line. */
        long amountOf(int line, int person, int month) {
            int place = placeOf(line, person, month);
            return line < 0 || place < 0 || place >= amounts.length ? 0 : amounts[place];
        }

        void settle(int line, int person, int month, long amount) {
            int place = placeOf(line, person, month);
            if (line >= 0 && place >= 0 && place < amounts.length) {
                amounts[place] = amount;
            }
        }

        void addLines(Version version) {
            for (int i = 0; i < version.count; i++) {
                if (version.kinds[i] != NO_LINE) {
                    int line = findLine(version.names[i], version.kinds[i]);
                    if (line < 0) {
                        line = addLine(version.names[i], version.kinds[i]);
                    }
                    version.setDefinitionOf(line, i);
                }
            }
        }

        int findLine(long name, int kind) {
            for (int line = 0; line < lineCount; line++) {
                if (lineNames[line] == name && lineKinds[line] == kind) {
                    return line;
                }
            }
            return -1;
        }

        // Each version brings at most 16 lines, so that 12 versions find room.
        private int addLine(long name, int kind) {
            int line = Math.min(lineCount, LINES_MAX - 1);
            lineNames[line] = name;
            lineKinds[line] = kind;
            if (placeOf(line, PERSONS_MAX, 0) > amounts.length) {
                amounts = Arrays.copyOf(amounts, 2 * amounts.length);
            }
            int rank = line;
            while (rank > 0 && standsAhead(line, ranked[rank - 1])) {
                ranked[rank] = ranked[rank - 1];
                rank--;
            }
            ranked[rank] = line;
            lineCount = line + 1;
            return line;
        }

        private boolean standsAhead(int line, int other) {
            if (lineNames[line] == lineNames[other]) {
                return lineKinds[line] < lineKinds[other];
            }
            return isAhead(lineNames[line], lineNames[other]);
        }

        void addEntry(int month, int line, long difference) {
            if (count >= keys.length) {
                keys = Arrays.copyOf(keys, 2 * keys.length);
                differences = Arrays.copyOf(differences, 2 * differences.length);
            }
            keys[count] = month * LINES_MAX + line;
            differences[count] = difference;
            count++;
        }

        int keyOf(int entry) {
            return entry < 0 || entry >= count ? 0 : keys[entry];
        }

        int monthOf(int entry) {
            return keyOf(entry) / LINES_MAX;
        }

        int lineOf(int entry) {
            return keyOf(entry) % LINES_MAX;
        }

        int kindOf(int entry) {
            return lineKinds[lineOf(entry)];
        }

        long differenceOf(int entry) {
            return entry < 0 || entry >= count ? 0 : differences[entry];
        }

        long netShare(int entry) {
            int kind = kindOf(entry);
            if (kind == PAY_LINE) {
                return differenceOf(entry);
            }
            return kind < COST_LINE ? -differenceOf(entry) : 0;
        }

        long settledFor(int authority, int month) {
            long sum = 0;
            for (int line = 0; line < lineCount; line++) {
                if (authorityOf(lineKinds[line]) == authority) {
                    for (int person = 0; person < PERSONS_MAX; person++) {
                        sum += amountOf(line, person, month);
                    }
                }
            }
            return sum;
        }

        long settledPay(int person) {
            long sum = 0;
            for (int line = 0; line < lineCount; line++) {
                if (lineKinds[line] == PAY_LINE) {
                    for (int month = 0; month < MONTHS; month++) {
                        sum += amountOf(line, person, month);
                    }
                }
            }
            return sum;
        }
    }

    /** A run: what it was made from, where its slips stand in the ledger, and what it paid out. */
    private static final class Run {
        final int moment;
        final int persons;
        final int corrected;
        int firstMonth;
        int lastMonth;
        final int[] starts;
        final long[] payouts;
        final boolean[] cameBack;

        Run(int moment, int persons, int corrected) {
            this.moment = moment;
            this.persons = persons;
            this.corrected = corrected;
            starts = new int[PERSONS_MAX + 1];
            payouts = new long[PERSONS_MAX];
            cameBack = new boolean[PERSONS_MAX];
        }

        boolean concerns(int person) {
            return person < persons && (corrected == NONE || corrected == person);
        }
    }

    /** A withholding; gets is what it takes in the payments that are being made. */
    private static final class Withholding {
        final int person;
        final int priority;
        final long most;
        long rest;
        long gets;

        Withholding(int person, int priority, long amount, long most) {
            this.person = person;
            this.priority = priority;
            this.rest = amount;
            this.most = most;
        }

        boolean isFor(int ofPerson, int ofPriority) {
            return person == ofPerson && priority == ofPriority;
        }

        long wants() {
            return Math.min(rest, most);
        }
    }

    /** Claims, waiting amounts, withholdings, what is owed and filed, and the journal. */
    private static final class Books {
        long bank;
        private long wages;
        final long[] owing;
        final long[] claims;
        final long[] waiting;
        final long[] shielded;
        private final Withholding[] withholdings;
        int withholdingCount;
        final long[] filings;
        final int[] filingCounts;
        // How many runs there were at the latest filing of each authority.
        final int[] runsFiled;

        Books() {
            owing = new long[AUTHORITIES];
            claims = new long[PERSONS_MAX];
            waiting = new long[PERSONS_MAX];
            shielded = new long[PERSONS_MAX];
            withholdings = new Withholding[WITHHOLDINGS_MAX];
            filings = new long[AUTHORITIES * FILINGS_MAX * MONTHS];
            filingCounts = new int[AUTHORITIES];
            runsFiled = new int[AUTHORITIES];
        }

        void bookEntry(int kind, long difference) {
            if (kind == PAY_LINE || kind >= COST_LINE) {
                wages += difference;
            }
            int authority = authorityOf(kind);
            if (authority >= 0 && authority < AUTHORITIES) {
                owing[authority] += difference;
            }
        }

        /** Adds a withholding where there is room for it, and answers its number. */
        int addWithholding(Withholding added) {
            if (withholdingCount < WITHHOLDINGS_MAX) {
                withholdings[withholdingCount] = added;
                withholdingCount++;
            }
            return withholdingCount - 1;
        }

        /** Answers a withholding, or null. */
        Withholding withholdingAt(int number) {
            return number < 0 || number >= withholdingCount ? null : withholdings[number];
        }

        /** Makes the payments of a run for a person, and answers what was paid out. */
        long pay(int person, long net, boolean withholds) {
            long left = net + waiting[person];
            waiting[person] = 0;
            if (left < 0) {
                claims[person] -= left;
                return 0;
            }
            long back = Math.min(claims[person], Math.max(0, left - shielded[person]));
            claims[person] -= back;
            left -= back;
            if (withholds) {
                long taken = takeWithholdings(person, left - shielded[person]);
                bank -= taken;
                left -= taken;
            }
            bank -= left;
            return left;
        }

        private long takeWithholdings(int person, long available) {
            long there = available;
            for (int priority = 0; priority < PRIORITIES && there > 0; priority++) {
                there -= takeByPriority(person, priority, there);
            }
            return available > 0 ? available - there : 0;
        }

        private long takeByPriority(int person, int priority, long there) {
            long wanted = 0;
            for (int i = 0; i < withholdingCount; i++) {
                Withholding next = withholdings[i];
                if (next != null && next.isFor(person, priority)) {
                    wanted += next.wants();
                }
            }
            if (wanted == 0) {
                return 0;
            }
            long taken = Math.min(wanted, there);
            long cents = taken;
            for (int i = 0; i < withholdingCount; i++) {
                Withholding next = withholdings[i];
                if (next != null && next.isFor(person, priority)) {
                    next.gets = next.wants() * taken / wanted;
                    cents -= next.gets;
                }
            }
            giveCents(person, priority, cents);
            return taken;
        }

        private void giveCents(int person, int priority, long cents) {
            long left = cents;
            for (int i = 0; i < withholdingCount; i++) {
                Withholding next = withholdings[i];
                if (next != null && next.isFor(person, priority)) {
                    if (left > 0 && next.gets < next.wants()) {
                        next.gets++;
                        left--;
                    }
                    next.rest -= next.gets;
                }
            }
        }

        static int placeOf(int authority, int filing, int month) {
            return (authority * FILINGS_MAX + filing) * MONTHS + month;
        }

        long filedBefore(int authority, int month) {
            long sum = 0;
            for (int i = 0; i < filingCounts[authority]; i++) {
                sum += filings[placeOf(authority, i, month)];
            }
            return sum;
        }

        long balanceOf(int account) {
            switch (account) {
                case 0:
                    return bank;
                case 1:
                    return wages;
                case 2:
                    return -sumOfAll(owing);
                case 3:
                    return sumOfAll(claims);
                default:
                    return -sumOfAll(waiting);
            }
        }

        private static long sumOfAll(long[] amounts) {
            long sum = 0;
            for (int i = 0; i < amounts.length; i++) {
                sum += amounts[i];
            }
            return sum;
        }
    }
}
