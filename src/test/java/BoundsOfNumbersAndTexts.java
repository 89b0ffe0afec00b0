import java.util.ArrayList;
import java.util.List;

/** The boundaries that section 1 of the document names: limits, numbers, names, moments, the text. */
public final class BoundsOfNumbersAndTexts {
    public static void main(String[] args) {
        months();
        persons();
        versions();
        statements();
        runs();
        withholdings();
        numbering();
        names();
        orderOfNames();
        moments();
        exceptions();
        theBuffer();
        emptying();
        places();
        blanks();
        longTokens();
        Bounds.finish(args);
    }

    private static PayHouse standing() {
        return Bounds.standing();
    }

    private static long n(String name) {
        return Bounds.n(name);
    }

    // ---- months

    private static void months() {
        Bounds.sentence("Months are numbered from 0 to 59; a year consists of the 12 months from a multiple of 12 on.");
        long h = n("h");
        int[] wrong = {-1, 60, Bounds.LEAST, Bounds.MOST, -60, 119};
        for (int month : wrong) {
            PayHouse x = standing();
            Bounds.refusedBy(x, Bounds.INDEX, "load", y -> y.load(month));
            Bounds.refusedBy(x, Bounds.INDEX, "versionInForce", y -> y.versionInForce(month, 0));
            Bounds.refusedBy(x, Bounds.INDEX, "value", y -> y.value(0, h, month, 0));
            Bounds.refusedBy(x, Bounds.INDEX, "valueIf", y -> y.valueIf(0, h, month, h, 0, 0));
            Bounds.refusedBy(x, Bounds.INDEX, "valueIf", y -> y.valueIf(0, h, 0, h, month, 0));
            Bounds.refusedBy(x, Bounds.INDEX, "explained", y -> y.explained(0, h, month));
            Bounds.refusedBy(x, Bounds.INDEX, "explainedMonth", y -> y.explainedMonth(0, n("a"), month, 0));
            Bounds.refusedBy(x, Bounds.INDEX, "explainedName", y -> y.explainedName(0, n("a"), month, 0));
            Bounds.refusedBy(x, Bounds.INDEX, "tell from", y -> y.tell(0, h, 0, month, 59, 1));
            Bounds.refusedBy(x, Bounds.INDEX, "tell to", y -> y.tell(0, h, 0, 0, month, 1));
            Bounds.refusedBy(x, Bounds.INDEX, "tell both", y -> y.tell(0, h, 0, month, month, 1));
            Bounds.refusedBy(x, Bounds.INDEX, "withdraw from", y -> y.withdraw(0, h, 0, month, 59));
            Bounds.refusedBy(x, Bounds.INDEX, "withdraw to", y -> y.withdraw(0, h, 0, 0, month));
            Bounds.refusedBy(x, Bounds.INDEX, "withdraw both", y -> y.withdraw(0, h, 0, month, month));
            Bounds.refusedBy(x, Bounds.INDEX, "factAt", y -> y.factAt(0, h, month, 0));
            Bounds.refusedBy(x, Bounds.INDEX, "sourceAt", y -> y.sourceAt(0, h, month, 0));
            Bounds.refusedBy(x, Bounds.INDEX, "changes", y -> y.changes(0, h, month));
            Bounds.refusedBy(x, Bounds.INDEX, "settled", y -> y.settled(0, h, 0, month));
            Bounds.refusedBy(x, Bounds.INDEX, "filed", y -> y.filed(1, 0, month));
        }
        int[] right = {0, 59};
        for (int month : right) {
            PayHouse x = standing();
            Bounds.taken(x, "versionInForce", y -> y.versionInForce(month, 0));
            Bounds.taken(x, "value", y -> y.value(0, h, month, 0));
            Bounds.taken(x, "valueIf", y -> y.valueIf(0, h, month, h, month, 0));
            Bounds.taken(x, "explained", y -> y.explained(0, h, month));
            Bounds.same("explained", x.explained(1, n("d"), month), month == 0 ? 1 : 0);
            Bounds.taken(x, "tell", y -> y.tell(0, h, 0, month, month, 1));
            Bounds.taken(x, "withdraw", y -> y.withdraw(0, h, 0, month, month));
            Bounds.taken(x, "factAt", y -> y.factAt(0, h, month, 0));
            Bounds.taken(x, "sourceAt", y -> y.sourceAt(0, h, month, 0));
            Bounds.taken(x, "changes", y -> y.changes(0, h, month));
            Bounds.taken(x, "settled", y -> y.settled(0, h, 0, month));
            Bounds.taken(x, "filed", y -> y.filed(1, 0, month));
            Bounds.same("load", x.load(month), 2);
            Bounds.same("it is in force", x.versionInForce(month, x.moment()), 2);
        }
        monthsExplained();
        PayHouse year = Bounds.ruled("a=1+year a*0;b=year a;");
        for (int month = 0; month < 60; month++) {
            Bounds.same("the months of the year ahead of " + month, year.value(0, n("b"), month, 1), month % 12);
        }
    }

    private static void monthsExplained() {
        PayHouse x = Bounds.ruled("a=fact h+last a;");
        Bounds.same("the month 0", x.explainedMonth(0, n("a"), 0, 0), 0);
        Bounds.same("the month 0", x.explainedName(0, n("a"), 0, 0), n("h"));
        Bounds.same("the month 59", x.explainedMonth(0, n("a"), 59, 59), 59);
        Bounds.same("the month 59", x.explainedName(0, n("a"), 59, 59), n("h"));
        Bounds.same("all months", x.explained(0, n("a"), 59), 60);
    }

    // ---- how many there can be

    private static void persons() {
        Bounds.sentence("There are at most 6 persons, 12 versions of the rules, 120 statements, 90 runs and 8 "
                + "withholdings; each of them is numbered from 0 as it is made.");
        PayHouse x = new PayHouse();
        for (int i = 0; i < 6; i++) {
            int next = i;
            Bounds.refusedBy(x, Bounds.INDEX, "a person to come", y -> y.claim(next));
            Bounds.same("person", x.person(), i);
            Bounds.taken(x, "claim", y -> y.claim(next));
        }
        Bounds.refused(Bounds.STATE, "the 7th person", () -> Bounds.people(6), y -> y.person());
        Bounds.refusedBy(x, Bounds.STATE, "the 7th person", y -> y.person());
        Bounds.refusedBy(x, Bounds.INDEX, "claim(6)", y -> y.claim(6));
    }

    private static PayHouse withVersions(int count) {
        PayHouse x = Bounds.people(1);
        for (int i = 0; i < count; i++) {
            Bounds.same("load", Bounds.loaded(x, 0, "pay a=" + i + ";"), i);
        }
        Bounds.typed(x, "pay b=9;");
        return x;
    }

    private static void versions() {
        PayHouse x = withVersions(11);
        Bounds.same("a fault makes no version", Bounds.loaded(x, 0, "?"), -11);
        Bounds.refusedBy(x, Bounds.INDEX, "definitions(11)", y -> y.definitions(11));
        Bounds.same("the 12th version", Bounds.loaded(x, 0, "pay a=11;b=1;"), 11);
        Bounds.same("the 12th version", x.definitions(11), 2);
        Bounds.same("it counts", x.value(0, n("a"), 0, 12), 11);
        Bounds.refused(Bounds.STATE, "the 13th version", () -> withVersions(12), y -> y.load(0));
        Bounds.refused(Bounds.INDEX, "a month is first", () -> withVersions(12), y -> y.load(60));
        PayHouse y = withVersions(12);
        Bounds.refusedBy(y, Bounds.STATE, "the 13th version", z -> z.load(0));
        Bounds.same("the text stays", y.type(0), 8);
        Bounds.same("no fault", y.faultKind(), 0);
        Bounds.same("no moment", y.moment(), 12);
        Bounds.refusedBy(y, Bounds.INDEX, "definitions(12)", z -> z.definitions(12));
        Bounds.typed(y, "?");
        Bounds.refusedBy(y, Bounds.STATE, "a text with a fault", z -> z.load(59));
    }

    /** A house with so many statements, every third of which takes back, and every third withdraws. */
    private static PayHouse withStatements(int count) {
        PayHouse x = Bounds.ruled("pay a=fact h;");
        for (int i = 0; i < count; i++) {
            int moment = i % 3 == 0 ? x.tell(0, n("h"), 2, 0, 59, i)
                    : i % 3 == 1 ? x.withdraw(0, n("h"), 2, 5, 9) : x.takeBack(i);
            Bounds.same("a statement", moment, i + 2);
        }
        Bounds.typed(x, "0h0 0-0=1;");
        return x;
    }

    private static void statements() {
        PayHouse told = withStatements(119);
        Bounds.same("the 120th tells", told.tell(0, n("h"), 2, 0, 59, 7), 121);
        Bounds.same("it counts", told.factAt(0, n("h"), 5, 121), 7);
        PayHouse withdrawn = withStatements(119);
        Bounds.same("the 120th withdraws", withdrawn.withdraw(0, n("h"), 2, 0, 59), 121);
        Bounds.same("it counts", withdrawn.sourceAt(0, n("h"), 5, 121), -1);
        PayHouse taken = withStatements(119);
        Bounds.same("the 120th takes back", taken.takeBack(119), 121);
        Bounds.same("it counts", taken.changes(0, n("h"), 20), withStatements(119).changes(0, n("h"), 20) + 1);
        PayHouse read = withStatements(119);
        Bounds.same("the 120th is read", read.tellText(), 1);
        Bounds.same("it counts", read.moment(), 121);
        PayHouse[] full = {told, withdrawn, taken, read};
        for (PayHouse x : full) {
            Bounds.refusedBy(x, Bounds.STATE, "the 121st tells", y -> y.tell(0, n("h"), 2, 0, 59, 7));
            Bounds.refusedBy(x, Bounds.STATE, "the 121st withdraws", y -> y.withdraw(0, n("h"), 2, 0, 59));
            Bounds.refusedBy(x, Bounds.STATE, "the 121st takes back", y -> y.takeBack(117));
            x.tellText();
            Bounds.same("the 121st is read", Bounds.told(x, "0h0 0-0=1;"), -3);
            Bounds.same("still", x.moment(), 121);
        }
        Bounds.refused(Bounds.STATE, "the 121st tells", () -> withStatements(120), y -> y.tell(0, n("h"), 2, 0, 59, 7));
        Bounds.refused(Bounds.STATE, "the 121st withdraws", () -> withStatements(120),
                y -> y.withdraw(0, n("h"), 2, 0, 59));
        Bounds.refused(Bounds.STATE, "the 121st takes back", () -> withStatements(120), y -> y.takeBack(117));
        Bounds.refused(Bounds.ARGUMENT, "a name is first", () -> withStatements(120), y -> y.tell(0, 0, 2, 0, 59, 7));
        Bounds.refused(Bounds.ARGUMENT, "a value is first", () -> withStatements(120),
                y -> y.tell(0, n("h"), 2, 0, 59, 1000000001));
        Bounds.refused(Bounds.ARGUMENT, "a source is first", () -> withStatements(120),
                y -> y.withdraw(0, n("h"), 3, 0, 59));
        Bounds.refused(Bounds.INDEX, "a month is first", () -> withStatements(120), y -> y.withdraw(0, 0, 2, 0, 60));
        Bounds.refused(Bounds.ARGUMENT, "a moment is first", () -> withStatements(120), y -> y.takeBack(1));
        Bounds.Maker latestTells = () -> {
            PayHouse x = withStatements(119);
            x.tell(0, n("h"), 2, 0, 59, 77);
            return x;
        };
        Bounds.refused(Bounds.STATE, "the latest one stays", latestTells, y -> y.takeBack(121));
        PayHouse late = latestTells.make();
        Bounds.refusedBy(late, Bounds.STATE, "the latest one stays", y -> y.takeBack(121));
        late.tellText();
        Bounds.loaded(late, 0, "");
        Bounds.same("it counts still", late.factAt(0, n("h"), 5, 122), 77);
    }

    /** A house in the month given, with so many runs. */
    private static PayHouse withRuns(int months, int count) {
        PayHouse x = Bounds.ruled("pay a=fact h;hold 1 b=2;");
        for (int i = 0; i < months; i++) {
            Bounds.same("run", x.run(), i);
        }
        for (int i = months; i < count; i++) {
            Bounds.same("correct", x.correct(0), i);
        }
        x.tell(0, n("h"), 0, 0, 59, 7);
        return x;
    }

    private static void runs() {
        PayHouse last = withRuns(59, 89);
        Bounds.refusedBy(last, Bounds.INDEX, "net(89)", y -> y.net(89, 0));
        Bounds.same("the 90th run", last.run(), 89);
        Bounds.same("it pays", last.net(89, 0), 60 * 7 - 2);
        Bounds.same("the month 60", last.presentMonth(), 60);
        PayHouse corrected = withRuns(5, 89);
        Bounds.same("the 90th run", corrected.correct(0), 89);
        Bounds.same("it pays", corrected.net(89, 0), 5 * 7);
        Bounds.refusedBy(corrected, Bounds.INDEX, "net(90)", y -> y.net(90, 0));
        Bounds.refused(Bounds.STATE, "the 91st run", () -> withRuns(5, 90), y -> y.run());
        Bounds.refused(Bounds.STATE, "the 91st run of correct()", () -> withRuns(5, 90), y -> y.correct(0));
        Bounds.refused(Bounds.INDEX, "a person is first", () -> withRuns(5, 90), y -> y.correct(1));
        Bounds.refused(Bounds.STATE, "both limits", () -> withRuns(60, 90), y -> y.run());
    }

    private static PayHouse withWithholdings(int count) {
        PayHouse x = Bounds.ruled("pay a=1000;");
        for (int i = 0; i < count; i++) {
            int withholding = i;
            Bounds.refusedBy(x, Bounds.INDEX, "one to come", y -> y.restOf(withholding));
            Bounds.same("withhold", x.withhold(0, 9 - i, i + 1, 1), i);
        }
        return x;
    }

    private static void withholdings() {
        PayHouse x = withWithholdings(8);
        for (int i = 0; i < 8; i++) {
            Bounds.same("restOf", x.restOf(i), i + 1);
        }
        x.run();
        for (int i = 0; i < 8; i++) {
            Bounds.same("each one takes", x.restOf(i), i);
        }
        Bounds.refused(Bounds.STATE, "the 9th", () -> withWithholdings(8), y -> y.withhold(0, 0, 1, 1));
        Bounds.refused(Bounds.ARGUMENT, "an amount is first", () -> withWithholdings(8), y -> y.withhold(0, 0, 0, 1));
        Bounds.refused(Bounds.INDEX, "a person is first", () -> withWithholdings(8), y -> y.withhold(1, 10, 0, 1));
        Bounds.refusedBy(x, Bounds.INDEX, "restOf(8)", y -> y.restOf(8));
    }

    private static void numbering() {
        PayHouse x = standing();
        Bounds.same("the next person", x.person(), 2);
        Bounds.same("the next version", Bounds.loaded(x, 3, ""), 2);
        Bounds.same("a fault", Bounds.loaded(x, 3, "c"), -4);
        Bounds.same("the next version", Bounds.loaded(x, 3, "c=1;"), 3);
        Bounds.same("the next run", x.run(), 2);
        Bounds.same("the next one, of correct()", x.correct(2), 3);
        Bounds.same("the next withholding", x.withhold(2, 0, 1, 1), 1);
    }

    // ---- names

    private static List<Long> noNames() {
        List<Long> numbers = new ArrayList<>();
        for (String word : Bounds.WORDS) {
            numbers.add(n(word));
        }
        long[] more = {0, -1, 1, 'A', 'Z', '0', '_', ' ', '`', '{', n("a1"), n("1a"), n("a b"), n(" a"), n("a "), n("Ab"),
            n("aB"), n("a`"), n("{a"), 0x610061L, 0x6100L, 0x6100000000000000L, 0x61000000000061L, n("zzzzzzz{"),
            n("`aaaaaaa"), n("aaaa{aaa"), n("zzzzzzzz") | 1L << 63, Long.MIN_VALUE, Long.MAX_VALUE, 0x80L, 0xe1L};
        for (long number : more) {
            numbers.add(number);
        }
        return numbers;
    }

    private static void names() {
        Bounds.sentence("A name consists of 1 to 8 letters a to z that are no word of section 2. As a parameter it is "
                + "told as a long: its letters as bytes, the last letter in the lowest byte, all higher bytes 0.");
        long h = n("h");
        for (long no : noNames()) {
            PayHouse x = standing();
            String what = "with the number " + no;
            Bounds.refusedBy(x, Bounds.ARGUMENT, "lineKind " + what, y -> y.lineKind(0, no));
            Bounds.refusedBy(x, Bounds.ARGUMENT, "value " + what, y -> y.value(0, no, 0, 0));
            Bounds.refusedBy(x, Bounds.ARGUMENT, "valueIf " + what, y -> y.valueIf(0, no, 0, h, 0, 0));
            Bounds.refusedBy(x, Bounds.ARGUMENT, "valueIf's fact " + what, y -> y.valueIf(0, h, 0, no, 0, 0));
            Bounds.refusedBy(x, Bounds.ARGUMENT, "explained " + what, y -> y.explained(0, no, 0));
            Bounds.refusedBy(x, Bounds.ARGUMENT, "explainedMonth " + what, y -> y.explainedMonth(0, no, 0, 0));
            Bounds.refusedBy(x, Bounds.ARGUMENT, "explainedName " + what, y -> y.explainedName(0, no, 0, 0));
            Bounds.refusedBy(x, Bounds.ARGUMENT, "tell " + what, y -> y.tell(0, no, 0, 0, 0, 0));
            Bounds.refusedBy(x, Bounds.ARGUMENT, "withdraw " + what, y -> y.withdraw(0, no, 0, 0, 0));
            Bounds.refusedBy(x, Bounds.ARGUMENT, "factAt " + what, y -> y.factAt(0, no, 0, 0));
            Bounds.refusedBy(x, Bounds.ARGUMENT, "sourceAt " + what, y -> y.sourceAt(0, no, 0, 0));
            Bounds.refusedBy(x, Bounds.ARGUMENT, "pieces " + what, y -> y.pieces(0, no, 0));
            Bounds.refusedBy(x, Bounds.ARGUMENT, "changes " + what, y -> y.changes(0, no, 0));
            Bounds.refusedBy(x, Bounds.ARGUMENT, "settled " + what, y -> y.settled(0, no, 0, 0));
        }
        String[] right = {"a", "z", "m", "zzzzzzzz", "aaaaaaaa", "none", "payx", "pa", "xpay", "holds", "costs", "i", "ifx",
            "monthly", "mont", "bandss", "band", "nota", "years", "lastlast"};
        for (String name : right) {
            PayHouse y = Bounds.people(1);
            Bounds.same("load of " + name, Bounds.loaded(y, 0, "pay " + name + "=fact " + name + "+1;"), 0);
            Bounds.same("definedName " + name, y.definedName(0, 0), n(name));
            Bounds.same("lineKind " + name, y.lineKind(0, n(name)), 0);
            Bounds.same("tell " + name, y.tell(0, n(name), 0, 0, 0, 4), 2);
            Bounds.same("factAt " + name, y.factAt(0, n(name), 0, 2), 4);
            Bounds.same("value " + name, y.value(0, n(name), 0, 2), 5);
            Bounds.same("valueIf " + name, y.valueIf(0, n(name), 0, n(name), 0, 8), 9);
            Bounds.same("explainedName " + name, y.explainedName(0, n(name), 0, 0), n(name));
            Bounds.same("changes " + name, y.changes(0, n(name), 0), 1);
            Bounds.same("pieces " + name, y.pieces(0, n(name), 2), 2);
            y.run();
            Bounds.same("settled " + name, y.settled(0, n(name), 0, 0), 5);
            Bounds.same("entryAt " + name, y.entryAt(0, 0, 0, 1), n(name));
            Bounds.same("withdraw " + name, y.withdraw(0, n(name), 0, 0, 0), 3);
            Bounds.same("sourceAt " + name, y.sourceAt(0, n(name), 0, 3), -1);
        }
    }

    private static void orderOfNames() {
        Bounds.sentence("Names are ordered as in a dictionary (ab is ahead of b, a ahead of ab).");
        String[] ordered = {"a", "aa", "aaaaaaaa", "aaaaaaab", "aab", "ab", "abcdefgh", "abd", "b", "ba", "m", "z", "za",
            "zzzzzzzz"};
        StringBuilder rules = new StringBuilder("facts=0");
        for (int i = 0; i < ordered.length; i++) {
            rules.append("+fact ").append(ordered[(i * 5 + 3) % ordered.length]);
        }
        PayHouse facts = Bounds.ruled(rules + ";");
        for (int i = 0; i < ordered.length; i++) {
            Bounds.same("the explanation's " + i, facts.explainedName(0, n("facts"), 4, i), n(ordered[i]));
        }
        StringBuilder lines = new StringBuilder();
        for (int i = 0; i < ordered.length; i++) {
            lines.append("pay ").append(ordered[(i * 5 + 3) % ordered.length]).append("=1;");
        }
        PayHouse slips = Bounds.ruled(lines.toString());
        slips.run();
        for (int i = 0; i < ordered.length; i++) {
            Bounds.same("the slip's " + i, slips.entryAt(0, 0, i, 1), n(ordered[i]));
        }
    }

    // ---- moments

    private static void moments() {
        Bounds.sentence("The house counts moments, from 0 on. The moment becomes 1 more by each version that is loaded "
                + "(without a fault) and by each statement that is made (section 3), and what is loaded or stated so is "
                + "known from this new moment on. As of a moment, all is known that has this moment or an earlier one.");
        PayHouse x = Bounds.people(1);
        Bounds.same("at first", x.moment(), 0);
        String[] faults = {"a", "a=b;", "a=a;"};
        for (String fault : faults) {
            Bounds.loaded(x, 0, fault);
            Bounds.same("a fault", x.moment(), 0);
        }
        Bounds.loaded(x, 0, "a=fact h;");
        Bounds.same("a version", x.moment(), 1);
        Bounds.loaded(x, 0, "a=fact h+1;");
        Bounds.same("a version", x.moment(), 2);
        Bounds.same("tell", x.tell(0, n("h"), 0, 0, 59, 10), 3);
        Bounds.same("withdraw", x.withdraw(0, n("h"), 0, 1, 59), 4);
        Bounds.same("takeBack", x.takeBack(4), 5);
        Bounds.same("tellText", Bounds.told(x, "0h0 2-2=20;0h0 3-3 none;"), 2);
        Bounds.same("two statements", x.moment(), 7);
        Bounds.same("a fault in the second", Bounds.told(x, "0h0 2-2=20;0h0 3-2 none;"), -20);
        Bounds.same("still", x.moment(), 7);
        x.person();
        x.run();
        x.correct(0);
        x.file(0);
        x.advance(0, 1);
        x.withhold(0, 0, 1, 1);
        x.setProtected(0, 1);
        x.setReach(1);
        x.write(0);
        Bounds.same("nothing else", x.moment(), 7);
        Bounds.same("no version at 0", x.versionInForce(0, 0), -1);
        Bounds.same("the first at 1", x.versionInForce(0, 1), 0);
        Bounds.same("the second at 2", x.versionInForce(0, 2), 1);
        Bounds.same("told, a moment ahead", x.factAt(0, n("h"), 1, 2), 0);
        Bounds.same("told, then", x.factAt(0, n("h"), 1, 3), 10);
        Bounds.same("withdrawn, then", x.sourceAt(0, n("h"), 1, 4), -1);
        Bounds.same("taken back, then", x.factAt(0, n("h"), 1, 5), 10);
        Bounds.same("read, a moment ahead", x.factAt(0, n("h"), 2, 5), 10);
        Bounds.same("read, then", x.factAt(0, n("h"), 2, 6), 20);
        Bounds.same("read second, a moment ahead", x.sourceAt(0, n("h"), 3, 6), 0);
        Bounds.same("read second, then", x.sourceAt(0, n("h"), 3, 7), -1);
        int[] due = {0, 0, 1, 11, 1, 11, 11, 11};
        for (int moment = 0; moment < due.length; moment++) {
            Bounds.same("the value as of " + moment, x.value(0, n("a"), 1, moment), due[moment]);
        }
        momentsAsked();
    }

    private static void momentsAsked() {
        int[] wrong = {-1, 7, Bounds.LEAST, Bounds.MOST};
        long h = n("h");
        PayHouse x = standing();
        Bounds.same("the moment", x.moment(), 6);
        for (int moment : wrong) {
            String what = "as of " + moment;
            Bounds.refusedBy(x, Bounds.ARGUMENT, "versionInForce " + what, y -> y.versionInForce(0, moment));
            Bounds.refusedBy(x, Bounds.ARGUMENT, "value " + what, y -> y.value(0, h, 0, moment));
            Bounds.refusedBy(x, Bounds.ARGUMENT, "factAt " + what, y -> y.factAt(0, h, 0, moment));
            Bounds.refusedBy(x, Bounds.ARGUMENT, "sourceAt " + what, y -> y.sourceAt(0, h, 0, moment));
            Bounds.refusedBy(x, Bounds.ARGUMENT, "pieces " + what, y -> y.pieces(0, h, moment));
            Bounds.refusedBy(x, Bounds.ARGUMENT, "firstChange " + what, y -> y.firstChange(0, moment, 0));
            Bounds.refusedBy(x, Bounds.ARGUMENT, "firstChange " + what, y -> y.firstChange(0, 0, moment));
            Bounds.refusedBy(x, Bounds.ARGUMENT, "takeBack " + what, y -> y.takeBack(moment));
        }
        int[] right = {0, 6};
        for (int moment : right) {
            Bounds.taken(x, "versionInForce", y -> y.versionInForce(0, moment));
            Bounds.taken(x, "value", y -> y.value(0, h, 0, moment));
            Bounds.taken(x, "factAt", y -> y.factAt(0, h, 0, moment));
            Bounds.taken(x, "sourceAt", y -> y.sourceAt(0, h, 0, moment));
            Bounds.taken(x, "pieces", y -> y.pieces(0, h, moment));
            Bounds.taken(x, "firstChange", y -> y.firstChange(0, moment, moment));
        }
    }

    // ---- exceptions

    private static void exceptions() {
        Bounds.sentence("If several exceptions apply to a call, the one that is listed first is thrown; a call that "
                + "throws an exception changes nothing. An IndexOutOfBoundsException is thrown for a person, version, "
                + "run, withholding, month or authority that does not exist; an IllegalArgumentException for a number "
                + "that is no name where a name is asked for, and for any other parameter that is out of its range.");
        int[] noPersons = {-1, 2, 6, Bounds.LEAST, Bounds.MOST};
        for (int person : noPersons) {
            personsAsked(person);
        }
        int[] noVersions = {-1, 2, 12, Bounds.LEAST, Bounds.MOST};
        PayHouse x = standing();
        for (int version : noVersions) {
            Bounds.refusedBy(x, Bounds.INDEX, "definitions of " + version, y -> y.definitions(version));
            Bounds.refusedBy(x, Bounds.INDEX, "definedName of " + version, y -> y.definedName(version, 0));
            Bounds.refusedBy(x, Bounds.INDEX, "lineKind of " + version, y -> y.lineKind(version, n("a")));
            Bounds.refusedBy(x, Bounds.INDEX, "write of " + version, y -> y.write(version));
        }
        runsAndOthersAsked();
    }

    private static void runsAndOthersAsked() {
        int[] noRuns = {-1, 2, 90, Bounds.LEAST, Bounds.MOST};
        for (int run : noRuns) {
            PayHouse x = standing();
            Bounds.refusedBy(x, Bounds.INDEX, "entries of " + run, y -> y.entries(run, 0));
            Bounds.refusedBy(x, Bounds.INDEX, "entryAt of " + run, y -> y.entryAt(run, 0, 0, 0));
            Bounds.refusedBy(x, Bounds.INDEX, "net of " + run, y -> y.net(run, 0));
            Bounds.refusedBy(x, Bounds.INDEX, "lateNet of " + run, y -> y.lateNet(run, 0));
            Bounds.refusedBy(x, Bounds.INDEX, "again of " + run, y -> y.again(run, 0));
            Bounds.refusedBy(x, Bounds.INDEX, "payout of " + run, y -> y.payout(run, 0));
            Bounds.refusedBy(x, Bounds.INDEX, "comeBack of " + run, y -> y.comeBack(run, 0));
            Bounds.refusedBy(x, Bounds.INDEX, "meanNet of " + run, y -> y.meanNet(run));
        }
        PayHouse x = standing();
        int[] noWithholdings = {-1, 1, 8, Bounds.LEAST, Bounds.MOST};
        for (int withholding : noWithholdings) {
            Bounds.refusedBy(x, Bounds.INDEX, "restOf " + withholding, y -> y.restOf(withholding));
        }
        int[] noAuthorities = {-1, 4, Bounds.LEAST, Bounds.MOST};
        for (int authority : noAuthorities) {
            Bounds.refusedBy(x, Bounds.INDEX, "owed " + authority, y -> y.owed(authority));
            Bounds.refusedBy(x, Bounds.INDEX, "file " + authority, y -> y.file(authority));
            Bounds.refusedBy(x, Bounds.INDEX, "filed " + authority, y -> y.filed(authority, 0, 0));
            Bounds.refusedBy(x, Bounds.INDEX, "remit " + authority, y -> y.remit(authority, 1));
        }
        for (int authority = 0; authority < 4; authority++) {
            int right = authority;
            Bounds.taken(x, "owed " + authority, y -> y.owed(right));
            Bounds.taken(x, "file " + authority, y -> y.file(right));
            Bounds.taken(x, "filed " + authority, y -> y.filed(right, 0, 0));
        }
    }

    private static void personsAsked(int person) {
        PayHouse x = standing();
        String what = " of the person " + person;
        long h = n("h");
        Bounds.refusedBy(x, Bounds.INDEX, "value" + what, y -> y.value(person, h, 0, 0));
        Bounds.refusedBy(x, Bounds.INDEX, "valueIf" + what, y -> y.valueIf(person, h, 0, h, 0, 0));
        Bounds.refusedBy(x, Bounds.INDEX, "explained" + what, y -> y.explained(person, h, 0));
        Bounds.refusedBy(x, Bounds.INDEX, "explainedMonth" + what, y -> y.explainedMonth(person, n("a"), 0, 0));
        Bounds.refusedBy(x, Bounds.INDEX, "explainedName" + what, y -> y.explainedName(person, n("a"), 0, 0));
        Bounds.refusedBy(x, Bounds.INDEX, "tell" + what, y -> y.tell(person, h, 0, 0, 0, 0));
        Bounds.refusedBy(x, Bounds.INDEX, "withdraw" + what, y -> y.withdraw(person, h, 0, 0, 0));
        Bounds.refusedBy(x, Bounds.INDEX, "factAt" + what, y -> y.factAt(person, h, 0, 0));
        Bounds.refusedBy(x, Bounds.INDEX, "sourceAt" + what, y -> y.sourceAt(person, h, 0, 0));
        Bounds.refusedBy(x, Bounds.INDEX, "pieces" + what, y -> y.pieces(person, h, 0));
        Bounds.refusedBy(x, Bounds.INDEX, "changes" + what, y -> y.changes(person, h, 0));
        Bounds.refusedBy(x, Bounds.INDEX, "firstChange" + what, y -> y.firstChange(person, 0, 0));
        Bounds.refusedBy(x, Bounds.INDEX, "correct" + what, y -> y.correct(person));
        Bounds.refusedBy(x, Bounds.INDEX, "entries" + what, y -> y.entries(0, person));
        Bounds.refusedBy(x, Bounds.INDEX, "entryAt" + what, y -> y.entryAt(0, person, 0, 0));
        Bounds.refusedBy(x, Bounds.INDEX, "net" + what, y -> y.net(0, person));
        Bounds.refusedBy(x, Bounds.INDEX, "lateNet" + what, y -> y.lateNet(0, person));
        Bounds.refusedBy(x, Bounds.INDEX, "settled" + what, y -> y.settled(person, h, 0, 0));
        Bounds.refusedBy(x, Bounds.INDEX, "again" + what, y -> y.again(0, person));
        Bounds.refusedBy(x, Bounds.INDEX, "setProtected" + what, y -> y.setProtected(person, 1));
        Bounds.refusedBy(x, Bounds.INDEX, "withhold" + what, y -> y.withhold(person, 0, 1, 1));
        Bounds.refusedBy(x, Bounds.INDEX, "advance" + what, y -> y.advance(person, 1));
        Bounds.refusedBy(x, Bounds.INDEX, "claim" + what, y -> y.claim(person));
        Bounds.refusedBy(x, Bounds.INDEX, "payout" + what, y -> y.payout(0, person));
        Bounds.refusedBy(x, Bounds.INDEX, "comeBack" + what, y -> y.comeBack(0, person));
    }

    // ---- the text buffer

    private static PayHouse withText(int length) {
        PayHouse x = standing();
        x.load(0);
        Bounds.same("the text", Bounds.typed(x, "a=1;" + " ".repeat(length - 4)), length);
        return x;
    }

    private static void theBuffer() {
        Bounds.sentence("The text buffer has at most 700 bytes.");
        PayHouse x = withText(700);
        Bounds.same("nothing more", x.type(0), 700);
        Bounds.same("700 bytes are read", x.load(0), 3);
        Bounds.same("then none", x.type(0), 0);
        for (int more = 1; more <= 8; more++) {
            long bytes = n("        ".substring(0, more));
            int length = 700 - more;
            Bounds.same(more + " bytes up to 700", withText(length).type(bytes), 700);
            Bounds.refused(Bounds.STATE, more + " bytes up to 701", () -> withText(length + 1), y -> y.type(bytes));
            Bounds.refused(Bounds.STATE, more + " bytes behind 700", () -> withText(700), y -> y.type(bytes));
        }
        Bounds.refused(Bounds.STATE, "the highest byte alone", () -> withText(700), y -> y.type(0x2000000000000000L));
        Bounds.refused(Bounds.STATE, "a byte above 127", () -> withText(700), y -> y.type(0x80));
        for (int sign = 1; sign < 256; sign++) {
            PayHouse full = withText(700);
            for (int place = 0; place < 8; place++) {
                long bytes = (long) sign << 8 * place;
                Bounds.refusedBy(full, Bounds.STATE, "the byte " + sign, y -> y.type(bytes));
            }
        }
        Bounds.same("zeros do not count", withText(699).type(0x2000000000L), 700);
        PayHouse spare = withText(699);
        Bounds.refusedBy(spare, Bounds.STATE, "two bytes", y -> y.type(0x2000000020L));
        Bounds.same("then one", spare.type(' '), 700);
        Bounds.same("it is read", spare.load(0), 3);
        facts700();
    }

    private static void facts700() {
        StringBuilder text = new StringBuilder();
        for (int i = 0; i < 70; i++) {
            text.append("0h0 0-0=").append(i % 10).append(";");
        }
        PayHouse x = Bounds.people(1);
        Bounds.same("700 bytes", Bounds.typed(x, text.toString()), 700);
        Bounds.same("70 statements", x.tellText(), 70);
        Bounds.same("the last one", x.factAt(0, n("h"), 0, 70), 9);
    }

    private static void emptying() {
        Bounds.sentence("Calls that read the text empty it, unless they throw an exception.");
        String[] rules = {"a=1;", "", "a=?", "a=b;", "a=a;"};
        for (String text : rules) {
            PayHouse x = Bounds.people(1);
            Bounds.loaded(x, 0, text);
            Bounds.same("load of " + text, x.type(0), 0);
            Bounds.same("an empty text then", x.tellText(), 0);
        }
        String[] facts = {"0h0 0-0=1;", "", "0h0", "9"};
        for (String text : facts) {
            PayHouse x = Bounds.people(1);
            Bounds.told(x, text);
            Bounds.same("tellText of " + text, x.type(0), 0);
            Bounds.same("an empty text then", x.load(0), 0);
        }
        PayHouse x = standing();
        Bounds.refusedBy(x, Bounds.INDEX, "load(60)", y -> y.load(60));
        Bounds.same("the text stays", x.type(0), 4);
        Bounds.same("the text stays", x.load(0), 2);
        Bounds.sameText("the text stays", Bounds.written(x, 2), "a=7;");
        PayHouse full = withVersions(12);
        Bounds.refusedBy(full, Bounds.STATE, "load(0)", y -> y.load(0));
        Bounds.same("the text stays", full.type(0), 8);
        Bounds.same("the text stays", full.tellText(), -3);
        PayHouse other = standing();
        other.value(0, n("a"), 0, 0);
        other.errors();
        other.write(1);
        other.run();
        Bounds.same("other calls leave it", other.type(0), 4);
    }

    private static void fault(String rules, int kind, int place) {
        PayHouse x = new PayHouse();
        Bounds.same("load of " + rules, Bounds.loaded(x, 0, rules), -3 - place);
        Bounds.same("the kind of " + rules, x.faultKind(), kind);
    }

    private static void factFault(String facts, int place) {
        PayHouse x = Bounds.people(1);
        Bounds.same("tellText of " + facts, Bounds.told(x, facts), -3 - place);
        Bounds.same("the moment after " + facts, x.moment(), 0);
    }

    private static void places() {
        Bounds.sentence("A fault is told by its place, the index of the first byte of the token concerned, or the length "
                + "of the text if it ends too early.");
        fault("?", 1, 0);
        fault("   ?", 1, 3);
        fault("a=1;abcdefghij", 1, 4);
        fault("a= 1234567890", 1, 3);
        fault("a  ==1;", 1, 3);
        fault("a=if 1<2  else", 1, 10);
        fault("a=b;   b=1; b =2;", 2, 12);
        fault("a=1;bc=bc;", 3, 4);
        fault("a", 1, 1);
        fault("a   ", 1, 4);
        fault("a=1", 1, 3);
        fault("a=1  ", 1, 5);
        fault("pay", 1, 3);
        fault("a=1;hold 1" + " ".repeat(690), 1, 700);
        factFault("  9", 2);
        factFault("0h", 2);
        factFault("0h   ", 5);
        factFault("0h0 0-0=1;0 abcdefghi", 12);
        factFault("0h0 0-0=1" + " ".repeat(691), 700);
    }

    private static void blanks() {
        Bounds.sentence("Blanks (byte 32) can stand between tokens, and mean nothing else;");
        String loose = "  pay   a =   if   1 <  2   then - ( 3 )   else min ( 1 , 2 ) ;   ";
        PayHouse x = Bounds.ruled(loose);
        Bounds.sameText("without blanks", Bounds.written(x, 0), "pay a=if 1<2 then-(3)else min(1,2);");
        Bounds.same("blanks alone", Bounds.loaded(x, 0, "     "), 1);
        Bounds.same("no definition", x.definitions(1), 0);
        Bounds.same("facts", Bounds.told(x, "  0  h  1  02 - 0003  =  -  7  ;  0 h 1 2 - 2 none ; "), 2);
        Bounds.same("the value", x.factAt(0, n("h"), 3, x.moment()), -7);
        Bounds.same("blanks alone", Bounds.told(x, "   "), 0);
        fault("a=1 2;", 1, 4);
        fault("a b=1;", 1, 2);
        fault("a=1< =2;", 1, 3);
        fault("a=if 1< =2 then 1 else 2;", 1, 8);
        fault("a=if 1= =2 then 1 else 2;", 1, 6);
        fault("pa y a=1;", 1, 3);
        factFault("0h0 0-0=1 1;", 10);
        factFault("0h0 0-0no ne;", 7);
        int[] noBlanks = {1, 9, 10, 13, 31, 33, 127, 128, 160, 255};
        for (int sign : noBlanks) {
            fault("a=1" + (char) sign + ";", 1, 3);
            factFault("0h0 0-0=1" + (char) sign + ";", 9);
        }
    }

    private static void longTokens() {
        Bounds.sentence("words, names, numbers and the signs <= and == are as long as they go.");
        PayHouse x = Bounds.ruled("paya=1;ifs=2;a=if 1<=2then 3else 4;b=if 2==2then 5else 6;notb=7;c=if not[1<2]then 8else 9;");
        Bounds.same("paya is a name", x.lineKind(0, n("paya")), 9);
        Bounds.same("<=", x.value(0, n("a"), 0, 1), 3);
        Bounds.same("==", x.value(0, n("b"), 0, 1), 5);
        Bounds.same("not and [", x.value(0, n("c"), 0, 1), 9);
        Bounds.ruled("a=if1<2then3else4;");
        fault("a=ifa<2then3else4;", 1, 5);
        fault("a=1;b=facta;", 2, 6);
        fault("a=1;b=lasta;", 2, 6);
        fault("a=monthmon;", 2, 2);
        fault("a=monthmont;", 1, 2);
        fault("hold1a=1;b=hold1;", 1, 11);
        fault("a==1;", 1, 1);
        fault("a=if 1<==2 then 1 else 2;", 1, 8);
        fault("a=if 1===2 then 1 else 2;", 1, 8);
        fault("a=if 1====2 then 1 else 2;", 1, 8);
        fault("a=if 1<<=2 then 1 else 2;", 1, 7);
        factFault("0h0 0-0==1;", 7);
        factFault("0h0 0-0=1nonee;", 9);
        factFault("0h0 0-0nonee;", 7);
        Bounds.same("00 is one number", Bounds.told(x, "00h00 000-059=00;"), 1);
        Bounds.same("012 is one number", Bounds.told(x, "0h0 01-012=0123;"), 1);
        Bounds.same("the value", x.factAt(0, n("h"), 12, x.moment()), 123);
    }
}
