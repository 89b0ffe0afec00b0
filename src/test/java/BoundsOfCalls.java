/**
 * Each promise in its turn: its parameters on both sides of their ranges, its exceptions in the order in which they
 * are listed, and that a refused call leaves the house as it was.
 */
public final class BoundsOfCalls {
    private static final long GREAT = Bounds.AMOUNT;
    private static final long H = Bounds.n("h");
    private static final long A = Bounds.n("a");
    private static final long D = Bounds.n("d");

    public static void main(String[] args) {
        newObject();
        texts();
        versions();
        values();
        explanations();
        personsAndMoments();
        tellings();
        takingsBack();
        readings();
        askings();
        changings();
        runs();
        slips();
        settlements();
        amounts();
        payouts();
        authorities();
        checksums();
        means();
        lateShares();
        errors();
        askingChangesNothing();
        manyCalls();
        Bounds.finish(args);
    }

    private static long n(String name) {
        return Bounds.n(name);
    }

    private static void index(String what, Bounds.Call call) {
        Bounds.refused(Bounds.INDEX, what, Bounds::standing, call);
    }

    private static void argument(String what, Bounds.Call call) {
        Bounds.refused(Bounds.ARGUMENT, what, Bounds::standing, call);
    }

    private static void state(String what, Bounds.Call call) {
        Bounds.refused(Bounds.STATE, what, Bounds::standing, call);
    }

    private static void element(String what, Bounds.Call call) {
        Bounds.refused(Bounds.ELEMENT, what, Bounds::standing, call);
    }

    private static void newObject() {
        Bounds.promise(1, "A new object");
        Bounds.sentence("Creates a house without persons, rules and facts, in the month 0, at the moment 0.");
        Bounds.refused(Bounds.INDEX, "no person", PayHouse::new, y -> y.claim(0));
        Bounds.refused(Bounds.INDEX, "no person", PayHouse::new, y -> y.tell(0, H, 0, 0, 0, 0));
        Bounds.refused(Bounds.INDEX, "no version", PayHouse::new, y -> y.definitions(0));
        Bounds.refused(Bounds.INDEX, "no run", PayHouse::new, y -> y.meanNet(0));
        Bounds.refused(Bounds.INDEX, "no withholding", PayHouse::new, y -> y.restOf(0));
        Bounds.refused(Bounds.ELEMENT, "no filing", PayHouse::new, y -> y.filed(0, 0, 0));
        Bounds.refused(Bounds.ARGUMENT, "no statement", PayHouse::new, y -> y.takeBack(0));
        Bounds.refused(Bounds.ARGUMENT, "no statement", PayHouse::new, y -> y.takeBack(1));
        Bounds.refused(Bounds.STATE, "nothing is owed", PayHouse::new, y -> y.remit(0, 1));
        PayHouse x = new PayHouse();
        Bounds.same("moment", x.moment(), 0);
        Bounds.same("presentMonth", x.presentMonth(), 0);
        Bounds.same("faultKind", x.faultKind(), 0);
        Bounds.same("checksum", x.checksum(), 0);
        Bounds.same("errors", x.errors(), 0);
        Bounds.same("outputByte", x.outputByte(0), -1);
        Bounds.sentence("`NONE = -1`: There is none.");
        Bounds.same("NONE", PayHouse.NONE, -1);
        PayHouse other = Bounds.standing();
        Bounds.same("houses share nothing", x.checksum() + x.moment() + x.type(0), 0);
        Bounds.same("the other one", other.moment(), 6);
    }

    private static void texts() {
        Bounds.promise(2, "type");
        Bounds.sentence("Appends bytes to the text buffer: the bytes of a number that are not 0, the highest one first.");
        PayHouse x = new PayHouse();
        Bounds.same("no byte", x.type(0), 0);
        Bounds.same("eight bytes", x.type(n("a=1;b=2;")), 8);
        Bounds.same("zeros between", x.type(0x63003d0000003300L), 11);
        Bounds.same("the lowest byte", x.type(';'), 12);
        Bounds.same("load", x.load(0), 0);
        Bounds.sameText("the order", Bounds.written(x, 0), "a=1;b=2;c=3;");
        Bounds.same("the highest byte", x.type(0x8000000000000000L), 1);
        Bounds.same("all bytes 255", x.type(-1L), 9);
        Bounds.same("none of them begins a token", x.load(0), -3);
        for (int sign = 1; sign < 256; sign++) {
            PayHouse y = new PayHouse();
            for (int place = 0; place < 8; place++) {
                Bounds.same("the byte " + sign, y.type((long) sign << 8 * place), place + 1);
            }
        }
        Bounds.promise(3, "outputByte");
        Bounds.same("first", x.outputByte(0), 'a');
        Bounds.same("last", x.outputByte(11), ';');
        int[] wrong = {-1, 12, 700, Bounds.LEAST, Bounds.MOST};
        for (int place : wrong) {
            Bounds.same("outputByte(" + place + ")", x.outputByte(place), PayHouse.NONE);
        }
        Bounds.loaded(x, 0, "");
        Bounds.same("the empty version", x.write(1), 0);
        Bounds.same("of an empty output", x.outputByte(0), PayHouse.NONE);
        Bounds.same("the version ahead", x.write(0), 12);
        Bounds.refusedBy(x, Bounds.INDEX, "write(2)", y -> y.write(2));
        Bounds.same("the output stays", x.outputByte(11), ';');
    }

    private static void versions() {
        Bounds.promise(4, "load");
        Bounds.sentence("Returns the number of the version; -3 - place of the fault, if there is one.");
        Bounds.same("a fault at the place 0", Bounds.loaded(new PayHouse(), 0, "1"), -3);
        Bounds.same("a fault at the place 1", Bounds.loaded(new PayHouse(), 59, "a1"), -4);
        Bounds.same("a fault at the place 699", Bounds.loaded(new PayHouse(), 0, " ".repeat(699) + "?"), -702);
        Bounds.same("a fault behind 700 bytes", Bounds.loaded(new PayHouse(), 0, " ".repeat(699) + "a"), -703);
        index("month -1", y -> y.load(-1));
        index("month 60", y -> y.load(60));
        Bounds.promise(5, "faultKind");
        Bounds.sentence("Returns 1 to 3; 0 if it had none, or there was no load().");
        PayHouse x = Bounds.people(1);
        String[] texts = {"a=1;", "a", "a=b;", "a=a;", "", "a=a;", "a=b;", "a"};
        int[] kinds = {0, 1, 2, 3, 0, 3, 2, 1};
        for (int i = 0; i < texts.length; i++) {
            Bounds.loaded(x, 0, texts[i]);
            Bounds.same("faultKind of " + texts[i], x.faultKind(), kinds[i]);
            Bounds.told(x, "0h0 0-0=1;");
            Bounds.told(x, "?");
            Bounds.refusedBy(x, Bounds.INDEX, "load(60)", y -> y.load(60));
            Bounds.same("still", x.faultKind(), kinds[i]);
        }
        Bounds.promise(6, "versionInForce");
        index("month -1", y -> y.versionInForce(-1, 0));
        index("month 60", y -> y.versionInForce(60, 0));
        index("a month is first", y -> y.versionInForce(60, 7));
        argument("moment 7", y -> y.versionInForce(59, 7));
        argument("moment -1", y -> y.versionInForce(0, -1));
        Bounds.promise(7, "definitions");
        index("version -1", y -> y.definitions(-1));
        index("version 2", y -> y.definitions(2));
        Bounds.promise(8, "definedName");
        index("a version is first", y -> y.definedName(2, 4));
        index("version -1", y -> y.definedName(-1, 0));
        element("index -1", y -> y.definedName(0, -1));
        element("index 4", y -> y.definedName(0, 4));
        element("index 1", y -> y.definedName(1, 1));
        element("index MIN", y -> y.definedName(1, Bounds.LEAST));
        element("index MAX", y -> y.definedName(1, Bounds.MOST));
        PayHouse z = Bounds.standing();
        Bounds.same("the last one", z.definedName(0, 3), D);
        Bounds.same("the first one", z.definedName(1, 0), A);
        Bounds.promise(9, "lineKind");
        index("a version is first", y -> y.lineKind(2, 0));
        argument("a word", y -> y.lineKind(0, n("pay")));
        Bounds.same("a line", z.lineKind(0, A), 0);
        Bounds.same("no line", z.lineKind(0, D), 9);
        Bounds.same("not defined in this version", z.lineKind(1, D), -1);
        Bounds.promise(10, "write");
        index("version -1", y -> y.write(-1));
        index("version 2", y -> y.write(2));
    }

    private static void values() {
        Bounds.promise(11, "value");
        index("person 2", y -> y.value(2, A, 0, 0));
        index("month 60", y -> y.value(0, A, 60, 0));
        index("a person is first", y -> y.value(-1, 0, 0, 99));
        index("a month is first", y -> y.value(0, 0, -1, -1));
        argument("no name", y -> y.value(0, n("month"), 0, 0));
        argument("moment 7", y -> y.value(0, A, 0, 7));
        argument("moment -1", y -> y.value(0, A, 0, -1));
        Bounds.sentence("Returns the value; 0 if the name is not defined.");
        PayHouse x = Bounds.standing();
        Bounds.same("not defined", x.value(0, n("zz"), 0, 6), 0);
        Bounds.same("defined", x.value(0, A, 0, 6), 1000);
        Bounds.same("not defined in the version in force", x.value(0, D, 9, 6), 0);
        Bounds.same("the month ahead", x.value(0, D, 8, 6), 9000);
        Bounds.promise(12, "valueIf");
        index("person 2", y -> y.valueIf(2, A, 0, H, 0, 0));
        index("month 60", y -> y.valueIf(0, A, 60, H, 0, 0));
        index("factMonth 60", y -> y.valueIf(0, A, 0, H, 60, 0));
        index("factMonth -1", y -> y.valueIf(0, A, 0, H, -1, 0));
        index("a factMonth is first", y -> y.valueIf(0, 0, 0, 0, 60, GREAT + 1));
        argument("no name", y -> y.valueIf(0, 0, 0, H, 0, 0));
        argument("no fact's name", y -> y.valueIf(0, A, 0, 0, 0, 0));
        argument("a value too great", y -> y.valueIf(0, A, 0, H, 0, GREAT + 1));
        argument("a value too small", y -> y.valueIf(0, A, 0, H, 0, -GREAT - 1));
        argument("MIN", y -> y.valueIf(0, A, 0, H, 0, Long.MIN_VALUE));
        argument("MAX", y -> y.valueIf(0, A, 0, H, 0, Long.MAX_VALUE));
        Bounds.same("the greatest one", x.valueIf(0, A, 0, H, 0, GREAT), GREAT);
        Bounds.same("the smallest one", x.valueIf(0, A, 0, H, 0, -GREAT), -GREAT);
        Bounds.sentence("if a fact of the person had a value in a month (and were as it is in all others).");
        Bounds.same("another month", x.valueIf(0, A, 0, H, 1, 5), 1000);
        Bounds.same("the month ahead", x.valueIf(0, D, 2, H, 1, 5), 2005);
        Bounds.same("this month", x.valueIf(0, D, 2, H, 2, 0), 2000);
        Bounds.same("another fact", x.valueIf(0, D, 2, n("hh"), 2, 0), 3000);
        Bounds.same("a fact without a value", x.valueIf(1, D, 31, H, 31, 8), 0);
        Bounds.same("not defined", x.valueIf(0, n("zz"), 0, H, 0, 8), 0);
        Bounds.same("as before", x.value(0, D, 2, 6), 3000);
        PayHouse bare = Bounds.ruled("a=fact h;");
        Bounds.same("none told", bare.valueIf(0, A, 59, H, 59, 8), 8);
        Bounds.same("nothing is told by it", bare.sourceAt(0, H, 59, 1), -1);
    }

    private static void explanations() {
        Bounds.promise(13, "explained");
        index("person 2", y -> y.explained(2, A, 0));
        index("month 60", y -> y.explained(0, A, 60));
        index("a month is first", y -> y.explained(0, 0, -1));
        argument("no name", y -> y.explained(0, 0, 0));
        Bounds.promise(14, "explainedMonth");
        index("person 2", y -> y.explainedMonth(2, 0, 0, -1));
        index("month 60", y -> y.explainedMonth(0, 0, 60, -1));
        argument("a name is first", y -> y.explainedMonth(0, 0, 0, -1));
        element("index -1", y -> y.explainedMonth(0, A, 0, -1));
        element("index 1", y -> y.explainedMonth(0, A, 0, 1));
        element("of no definition", y -> y.explainedMonth(0, n("zz"), 0, 0));
        element("of no fact", y -> y.explainedMonth(0, n("c"), 0, 0));
        Bounds.promise(15, "explainedName");
        index("person 2", y -> y.explainedName(2, 0, 0, -1));
        index("month 60", y -> y.explainedName(0, 0, 60, -1));
        argument("a name is first", y -> y.explainedName(0, 0, 0, -1));
        element("index -1", y -> y.explainedName(0, A, 0, -1));
        element("index 1", y -> y.explainedName(0, A, 0, 1));
        element("of no definition", y -> y.explainedName(0, n("zz"), 0, 0));
        element("MIN", y -> y.explainedName(0, D, 8, Bounds.LEAST));
        element("MAX", y -> y.explainedName(0, D, 8, Bounds.MOST));
        PayHouse x = Bounds.standing();
        Bounds.same("how many", x.explained(0, D, 8), 9);
        Bounds.same("the first one", x.explainedMonth(0, D, 8, 0), 0);
        Bounds.same("the last one", x.explainedMonth(0, D, 8, 8), 8);
        Bounds.same("its name", x.explainedName(0, D, 8, 8), H);
        Bounds.same("in the version behind", x.explained(0, D, 9), 0);
        Bounds.loaded(x, 0, "");
        Bounds.loaded(x, 0, "d=7;");
        Bounds.same("as of the present moment", x.explained(0, D, 8), 0);
    }

    private static void personsAndMoments() {
        Bounds.promise(16, "person");
        PayHouse x = new PayHouse();
        for (int i = 0; i < 6; i++) {
            Bounds.same("person", x.person(), i);
        }
        Bounds.refused(Bounds.STATE, "the 7th", () -> Bounds.people(6), y -> y.person());
        Bounds.promise(17, "moment");
        Bounds.same("moment", Bounds.standing().moment(), 6);
    }

    private static void tellings() {
        Bounds.promise(18, "tell");
        index("person 2", y -> y.tell(2, H, 0, 0, 0, 0));
        index("from -1", y -> y.tell(0, H, 0, -1, 0, 0));
        index("to 60", y -> y.tell(0, H, 0, 0, 60, 0));
        index("a person is first", y -> y.tell(-1, 0, 3, 0, 0, 0));
        index("a month is first", y -> y.tell(0, 0, 3, 60, 0, Bounds.MOST));
        index("a month is first", y -> y.tell(0, 0, 3, 0, -1, Bounds.MOST));
        argument("no name", y -> y.tell(0, n("last"), 0, 0, 0, 0));
        argument("source -1", y -> y.tell(0, H, -1, 0, 0, 0));
        argument("source 3", y -> y.tell(0, H, 3, 0, 0, 0));
        argument("to ahead of from", y -> y.tell(0, H, 0, 1, 0, 0));
        argument("to ahead of from", y -> y.tell(0, H, 0, 59, 58, 0));
        argument("a value too great", y -> y.tell(0, H, 0, 0, 0, 1000000001));
        argument("a value too small", y -> y.tell(0, H, 0, 0, 0, -1000000001));
        argument("MIN", y -> y.tell(0, H, 0, 0, 0, Bounds.LEAST));
        argument("MAX", y -> y.tell(0, H, 0, 0, 0, Bounds.MOST));
        PayHouse x = Bounds.standing();
        Bounds.same("the greatest value", x.tell(1, H, 2, 59, 59, 1000000000), 7);
        Bounds.same("the greatest value", x.factAt(1, H, 59, 7), 1000000000);
        Bounds.same("the smallest value", x.tell(1, H, 2, 0, 0, -1000000000), 8);
        Bounds.same("the smallest value", x.factAt(1, H, 0, 8), -1000000000);
        Bounds.same("the source 0", x.tell(1, n("k"), 0, 0, 59, 0), 9);
        Bounds.same("the source 0", x.sourceAt(1, n("k"), 59, 9), 0);
        Bounds.promise(19, "withdraw");
        index("person 2", y -> y.withdraw(2, H, 0, 0, 0));
        index("from 60", y -> y.withdraw(0, H, 0, 60, 60));
        index("to -1", y -> y.withdraw(0, H, 0, 0, -1));
        index("a month is first", y -> y.withdraw(0, 0, 3, 0, 60));
        argument("no name", y -> y.withdraw(0, n("if"), 0, 0, 0));
        argument("source -1", y -> y.withdraw(0, H, -1, 0, 0));
        argument("source 3", y -> y.withdraw(0, H, 3, 0, 0));
        argument("to ahead of from", y -> y.withdraw(0, H, 0, 1, 0));
        Bounds.same("one month", x.withdraw(1, H, 2, 0, 0), 10);
        Bounds.same("one month", x.sourceAt(1, H, 0, 10), 1);
        Bounds.same("what was never told", x.withdraw(1, n("q"), 2, 0, 59), 11);
        Bounds.same("no change by it", x.changes(1, n("q"), 0), 0);
    }

    private static void takingsBack() {
        Bounds.promise(20, "takeBack");
        Bounds.sentence("if moment is not 1 to the present moment, or no statement that tells or withdraws became known then");
        argument("moment 0", y -> y.takeBack(0));
        argument("moment -1", y -> y.takeBack(-1));
        argument("moment 7", y -> y.takeBack(7));
        argument("a version", y -> y.takeBack(1));
        argument("a version", y -> y.takeBack(6));
        argument("a taking back", y -> y.takeBack(5));
        argument("MIN", y -> y.takeBack(Bounds.LEAST));
        argument("MAX", y -> y.takeBack(Bounds.MOST));
        Bounds.sentence("if it was taken back already, or there are 120 statements");
        state("taken back already", y -> y.takeBack(4));
        PayHouse x = Bounds.standing();
        Bounds.same("one that tells", x.takeBack(3), 7);
        Bounds.same("one that tells", x.sourceAt(1, H, 0, 7), -1);
        Bounds.refusedBy(x, Bounds.STATE, "taken back now", y -> y.takeBack(3));
        Bounds.same("the present moment's", x.takeBack(x.tell(0, H, 0, 0, 0, 1)), 9);
        PayHouse first = Bounds.people(1);
        first.tell(0, H, 0, 0, 0, 1);
        Bounds.same("the moment 1", first.takeBack(1), 2);
        PayHouse read = Bounds.people(1);
        Bounds.told(read, "0h0 0-0=1;0h0 0-0none;0h0 0-0=3;");
        Bounds.same("one of a text", read.takeBack(3), 4);
        Bounds.same("the withdrawal is the latest", read.sourceAt(0, H, 0, 4), -1);
        Bounds.same("the withdrawal", read.takeBack(2), 5);
        Bounds.same("the first one is left", read.factAt(0, H, 0, 5), 1);
    }

    private static void readings() {
        Bounds.promise(21, "tellText");
        Bounds.sentence("Makes the statements of the text of facts, in their order, if it has no fault; otherwise none.");
        Bounds.sentence("Returns how many statements were made; -3 - place of the fault, if there is one.");
        PayHouse x = Bounds.people(1);
        Bounds.same("none", x.tellText(), 0);
        Bounds.same("one", Bounds.told(x, "0h0 0-0=1;"), 1);
        Bounds.same("two", Bounds.told(x, "0h0 0-0=2;0h0 0-0=3;"), 2);
        Bounds.same("the last one counts", x.factAt(0, H, 0, 3), 3);
        Bounds.same("a fault at the place 0", Bounds.told(x, "?"), -3);
        Bounds.same("a fault at the end", Bounds.told(x, "0h0 0-0=4;0"), -14);
        Bounds.same("none is made", x.moment(), 3);
        Bounds.same("a fault at the place 699", Bounds.told(x, " ".repeat(699) + "?"), -702);
        Bounds.same("a fault behind 700 bytes", Bounds.told(x, " ".repeat(699) + "0"), -703);
        Bounds.same("no load", x.faultKind(), 0);
    }

    private static void askings() {
        Bounds.promise(22, "factAt");
        index("person 2", y -> y.factAt(2, H, 0, 0));
        index("month 60", y -> y.factAt(0, H, 60, 0));
        index("a month is first", y -> y.factAt(0, 0, -1, 99));
        argument("no name", y -> y.factAt(0, 0, 0, 0));
        argument("moment 7", y -> y.factAt(0, H, 0, 7));
        argument("moment -1", y -> y.factAt(0, H, 0, -1));
        Bounds.promise(23, "sourceAt");
        index("person 2", y -> y.sourceAt(2, H, 0, 0));
        index("month 60", y -> y.sourceAt(0, H, 60, 0));
        index("a month is first", y -> y.sourceAt(0, 0, -1, 99));
        argument("no name", y -> y.sourceAt(0, 0, 0, 0));
        argument("moment 7", y -> y.sourceAt(0, H, 0, 7));
        argument("moment -1", y -> y.sourceAt(0, H, 0, -1));
        Bounds.promise(24, "pieces");
        index("person 2", y -> y.pieces(2, H, 0));
        index("a person is first", y -> y.pieces(-1, 0, 99));
        argument("no name", y -> y.pieces(0, 0, 0));
        argument("moment 7", y -> y.pieces(0, H, 7));
        argument("moment -1", y -> y.pieces(0, H, -1));
        Bounds.sentence("the fewest spans in each of which all months have the same value, or all have none.");
        PayHouse x = Bounds.people(1);
        Bounds.same("none at all", x.pieces(0, H, 0), 1);
        x.tell(0, H, 0, 0, 59, 3);
        Bounds.same("one value", x.pieces(0, H, 1), 1);
        x.tell(0, H, 1, 0, 0, 4);
        Bounds.same("the first month", x.pieces(0, H, 2), 2);
        x.tell(0, H, 1, 59, 59, 4);
        Bounds.same("the last month", x.pieces(0, H, 3), 3);
        x.tell(0, H, 1, 1, 58, 3);
        Bounds.same("the same value of another source", x.pieces(0, H, 4), 3);
        x.withdraw(0, H, 0, 0, 59);
        x.withdraw(0, H, 1, 30, 30);
        Bounds.same("none in the middle", x.pieces(0, H, 6), 5);
        x.tell(0, H, 2, 30, 30, 0);
        Bounds.same("a 0 in the middle", x.pieces(0, H, 7), 5);
        x.tell(0, H, 2, 31, 31, 0);
        Bounds.same("two of them", x.pieces(0, H, 8), 5);
        x.withdraw(0, H, 1, 29, 29);
        Bounds.same("none and 0 are not the same", x.pieces(0, H, 9), 6);
        PayHouse most = Bounds.people(1);
        for (int month = 1; month < 60; month += 2) {
            most.tell(0, H, 0, month, month, 0);
        }
        Bounds.same("the most", most.pieces(0, H, 30), 60);
        Bounds.same("the others", most.pieces(0, H, 29), 59);
    }

    private static void changings() {
        Bounds.promise(25, "changes");
        index("person 2", y -> y.changes(2, H, 0));
        index("month 60", y -> y.changes(0, H, 60));
        index("a month is first", y -> y.changes(0, 0, -1));
        argument("no name", y -> y.changes(0, 0, 0));
        Bounds.sentence("at how many moments from 1 on it has another value, or has one or none, than as of the moment before.");
        PayHouse x = Bounds.people(1);
        int[] due = {1, 1, 2, 3, 4, 4, 5, 6};
        Bounds.same("none", x.changes(0, H, 5), 0);
        for (int i = 0; i < due.length; i++) {
            switch (i) {
                case 0: x.tell(0, H, 1, 5, 5, 0); break;
                case 1: x.tell(0, H, 2, 5, 5, 0); break;
                case 2: x.tell(0, H, 2, 0, 59, 9); break;
                case 3: x.withdraw(0, H, 2, 5, 5); break;
                case 4: x.withdraw(0, H, 1, 5, 5); break;
                case 5: x.withdraw(0, H, 0, 5, 5); break;
                case 6: x.takeBack(5); break;
                default: x.takeBack(4);
            }
            Bounds.same("changes after " + (i + 1), x.changes(0, H, 5), due[i]);
        }
        Bounds.same("another month", x.changes(0, H, 6), 1);
        Bounds.promise(26, "firstChange");
        index("person 2", y -> y.firstChange(2, 0, 0));
        index("a person is first", y -> y.firstChange(-1, 99, -1));
        argument("moment -1", y -> y.firstChange(0, -1, 0));
        argument("moment 7", y -> y.firstChange(0, 7, 0));
        argument("later -1", y -> y.firstChange(0, 0, -1));
        argument("later 7", y -> y.firstChange(0, 0, 7));
        PayHouse z = Bounds.standing();
        Bounds.same("the month 0", z.firstChange(0, 0, 6), 0);
        Bounds.same("the same moment", z.firstChange(0, 6, 6), -1);
        Bounds.same("the version alone", z.firstChange(0, 5, 6), -1);
        Bounds.same("a span", z.firstChange(1, 3, 4), 5);
        Bounds.same("the other way", z.firstChange(1, 4, 3), 5);
        Bounds.same("taken back", z.firstChange(1, 3, 5), -1);
        z.tell(1, n("k"), 0, 59, 59, 0);
        Bounds.same("the month 59", z.firstChange(1, 6, 7), 59);
        Bounds.same("another person", z.firstChange(0, 6, 7), -1);
        z.tell(1, n("k"), 1, 58, 59, 0);
        Bounds.same("the month 58", z.firstChange(1, 7, 8), 58);
        z.tell(1, n("k"), 2, 58, 59, 0);
        Bounds.same("the same value", z.firstChange(1, 8, 9), -1);
        z.tell(1, n("k"), 2, 40, 59, 0);
        z.tell(1, n("k"), 2, 30, 59, 0);
        Bounds.same("the first month of the span", z.firstChange(1, 8, 10), 40);
        Bounds.same("over two statements", z.firstChange(1, 8, 11), 30);
        z.tell(1, n("k"), 2, 10, 59, 0);
        z.takeBack(12);
        z.tell(1, n("k"), 2, 25, 45, 0);
        Bounds.same("in the middle", z.firstChange(1, 11, 14), 25);
        z.tell(1, n("k"), 2, 20, 50, 0);
        z.withdraw(1, n("k"), 2, 20, 27);
        Bounds.same("in the middle of a span", z.firstChange(1, 14, 16), 25);
        z.tell(1, n("m"), 0, 3, 5, 1);
        z.tell(1, n("m"), 1, 2, 4, 1);
        z.tell(1, n("m"), 2, 2, 5, 1);
        Bounds.same("nothing at the first two", z.firstChange(1, 18, 19), -1);
        z.tell(1, n("m"), 2, 2, 9, 1);
        Bounds.same("behind what was told", z.firstChange(1, 19, 20), 6);
    }

    private static void runs() {
        Bounds.promise(27, "presentMonth");
        Bounds.same("presentMonth", Bounds.standing().presentMonth(), 2);
        Bounds.promise(28, "setReach");
        argument("-1", y -> y.setReach(-1));
        argument("60", y -> y.setReach(60));
        PayHouse x = Bounds.standing();
        Bounds.same("the reach before", x.setReach(0), 7);
        Bounds.same("the reach before", x.setReach(59), 0);
        Bounds.same("the reach before", x.setReach(59), 59);
        Bounds.promise(29, "run");
        Bounds.same("run", x.run(), 2);
        Bounds.promise(30, "correct");
        index("person 2", y -> y.correct(2));
        index("person -1", y -> y.correct(-1));
        Bounds.refused(Bounds.STATE, "the month 0", () -> Bounds.people(2), y -> y.correct(1));
        Bounds.refused(Bounds.INDEX, "a person is first", () -> Bounds.people(2), y -> y.correct(2));
        Bounds.same("correct", x.correct(1), 3);
    }

    private static void slips() {
        Bounds.promise(31, "entries");
        index("run 2", y -> y.entries(2, 0));
        index("run -1", y -> y.entries(-1, 0));
        index("person 2", y -> y.entries(0, 2));
        index("person -1", y -> y.entries(0, -1));
        Bounds.sentence("Returns the number; 0 for a person who came behind the run.");
        PayHouse x = Bounds.standing();
        x.person();
        Bounds.same("came behind", x.entries(1, 2), 0);
        Bounds.refusedBy(x, Bounds.ELEMENT, "an entry", y -> y.entryAt(1, 2, 0, 0));
        Bounds.same("net", x.net(1, 2), 0);
        Bounds.same("lateNet", x.lateNet(1, 2), 0);
        Bounds.same("payout", x.payout(1, 2), 0);
        Bounds.same("again", x.again(1, 2), 0);
        x.tell(2, H, 0, 0, 59, 100);
        x.run();
        // a, b and c in the months 0 to 2.
        Bounds.same("then", x.entries(2, 2), 9);
        Bounds.promise(32, "entryAt");
        index("run 2", y -> y.entryAt(2, 0, 0, 0));
        index("person 2", y -> y.entryAt(0, 2, 0, 0));
        index("a run is first", y -> y.entryAt(-1, 0, 99, 4));
        index("a person is first", y -> y.entryAt(0, -1, 99, 4));
        argument("what -1", y -> y.entryAt(0, 0, 0, -1));
        argument("what 4", y -> y.entryAt(0, 0, 0, 4));
        argument("what is first", y -> y.entryAt(0, 0, 99, 4));
        argument("what is first", y -> y.entryAt(0, 0, -1, Bounds.MOST));
        element("index 3", y -> y.entryAt(0, 0, 3, 0));
        element("index -1", y -> y.entryAt(0, 0, -1, 3));
        element("index MAX", y -> y.entryAt(0, 0, Bounds.MOST, 3));
        element("index MIN", y -> y.entryAt(0, 0, Bounds.LEAST, 3));
        Bounds.same("the last month", x.entryAt(2, 2, 8, 0), 2);
        Bounds.same("the last name", x.entryAt(2, 2, 8, 1), n("c"));
        Bounds.same("the last kind", x.entryAt(2, 2, 8, 2), 7);
        Bounds.same("the last difference", x.entryAt(2, 2, 8, 3), 5);
        Bounds.same("the first difference", x.entryAt(2, 2, 0, 3), 100);
        Bounds.refusedBy(x, Bounds.ELEMENT, "one more", y -> y.entryAt(2, 2, 9, 3));
        Bounds.promise(33, "net");
        index("run 2", y -> y.net(2, 0));
        index("run -1", y -> y.net(-1, 0));
        index("person 2", y -> y.net(0, 2));
        index("person -1", y -> y.net(0, -1));
        Bounds.same("net", x.net(2, 2), 270);
        Bounds.promise(34, "lateNet");
        index("run 2", y -> y.lateNet(2, 0));
        index("run -1", y -> y.lateNet(-1, 0));
        index("person 2", y -> y.lateNet(0, 2));
        index("person -1", y -> y.lateNet(0, -1));
        Bounds.sentence("that is for months before the greatest month that was settled (with or without entries) in the run.");
        Bounds.same("lateNet", x.lateNet(2, 2), 180);
        Bounds.same("none is late", x.lateNet(2, 0), 0);
        lateWithoutEntries();
    }

    private static void lateWithoutEntries() {
        PayHouse x = Bounds.ruled("pay a=fact h;");
        x.run();
        x.tell(0, H, 0, 0, 0, 5);
        x.run();
        Bounds.same("no entry in the month 1", x.entries(1, 0), 1);
        Bounds.same("the month 0 is late", x.lateNet(1, 0), 5);
        x.tell(0, H, 0, 0, 0, 7);
        x.correct(0);
        Bounds.same("no entry in the month 1", x.entries(2, 0), 1);
        Bounds.same("correct() settled the month 1", x.lateNet(2, 0), 2);
        x.tell(0, H, 0, 1, 1, 7);
        x.correct(0);
        Bounds.same("the month 1 is not late", x.lateNet(3, 0), 0);
        Bounds.same("the net", x.net(3, 0), 7);
    }

    private static void settlements() {
        Bounds.promise(35, "settled");
        index("person 2", y -> y.settled(2, A, 0, 0));
        index("month 60", y -> y.settled(0, A, 0, 60));
        index("a month is first", y -> y.settled(0, 0, 9, -1));
        argument("no name", y -> y.settled(0, 0, 0, 0));
        argument("kind -1", y -> y.settled(0, A, -1, 0));
        argument("kind 9", y -> y.settled(0, A, 9, 0));
        argument("kind MAX", y -> y.settled(0, A, Bounds.MOST, 0));
        PayHouse x = Bounds.standing();
        Bounds.same("kind 0", x.settled(0, A, 0, 1), 1000);
        Bounds.same("kind 8", x.settled(0, A, 8, 1), 0);
        Bounds.same("kind 7", x.settled(0, n("c"), 7, 1), 5);
        Bounds.same("the month 2", x.settled(0, A, 0, 2), 0);
        Bounds.same("no line", x.settled(0, D, 0, 1), 0);
        Bounds.promise(36, "again");
        index("run 2", y -> y.again(2, 0));
        index("run -1", y -> y.again(-1, 0));
        index("person 2", y -> y.again(0, 2));
        index("person -1", y -> y.again(0, -1));
        x.tell(0, H, 2, 0, 59, 7);
        Bounds.loaded(x, 0, "pay q=1;");
        x.setReach(0);
        x.run();
        x.setReach(30);
        x.correct(0);
        x.takeBack(7);
        x.person();
        x.run();
        for (int run = 0; run < 5; run++) {
            for (int person = 0; person < 3; person++) {
                Bounds.same("again", x.again(run, person), 0);
            }
        }
    }

    private static void amounts() {
        Bounds.promise(37, "setProtected");
        index("person 2", y -> y.setProtected(2, 0));
        index("a person is first", y -> y.setProtected(-1, -1));
        argument("-1", y -> y.setProtected(0, -1));
        argument("too much", y -> y.setProtected(0, GREAT + 1));
        argument("MAX", y -> y.setProtected(0, Long.MAX_VALUE));
        argument("MIN", y -> y.setProtected(0, Long.MIN_VALUE));
        argument("2^32", y -> y.setProtected(0, 1L << 32));
        PayHouse x = Bounds.standing();
        Bounds.same("0", x.setProtected(1, 0), 50);
        Bounds.same("the most", x.setProtected(1, GREAT), 0);
        Bounds.same("the amount before", x.setProtected(1, 1), GREAT);
        Bounds.same("the other person's", x.setProtected(0, 1), 0);
        Bounds.promise(38, "withhold");
        index("person 2", y -> y.withhold(2, 0, 1, 1));
        index("a person is first", y -> y.withhold(-1, 10, 0, 0));
        argument("priority -1", y -> y.withhold(0, -1, 1, 1));
        argument("priority 10", y -> y.withhold(0, 10, 1, 1));
        argument("amount 0", y -> y.withhold(0, 0, 0, 1));
        argument("amount -1", y -> y.withhold(0, 0, -1, 1));
        argument("amount too much", y -> y.withhold(0, 0, GREAT + 1, 1));
        argument("amount 2^32", y -> y.withhold(0, 0, (1L << 32) + 1, 1));
        argument("most 0", y -> y.withhold(0, 0, 1, 0));
        argument("most -1", y -> y.withhold(0, 0, 1, -1));
        argument("most too much", y -> y.withhold(0, 0, 1, GREAT + 1));
        argument("most 2^32", y -> y.withhold(0, 0, 1, (1L << 32) + 1));
        Bounds.same("the least", x.withhold(0, 0, 1, 1), 1);
        Bounds.same("the greatest", x.withhold(0, 9, GREAT, GREAT), 2);
        Bounds.same("the rest", x.restOf(2), GREAT);
        Bounds.promise(39, "restOf");
        index("withholding 1", y -> y.restOf(1));
        index("withholding -1", y -> y.restOf(-1));
        Bounds.same("restOf", x.restOf(0), 100);
        Bounds.promise(40, "advance");
        index("person 2", y -> y.advance(2, 1));
        index("a person is first", y -> y.advance(-1, 0));
        argument("0", y -> y.advance(0, 0));
        argument("-1", y -> y.advance(0, -1));
        argument("too much", y -> y.advance(0, GREAT + 1));
        argument("2^32", y -> y.advance(0, (1L << 32) + 1));
        argument("MIN", y -> y.advance(0, Long.MIN_VALUE));
        Bounds.same("the least", x.advance(0, 1), 1);
        Bounds.same("the most", x.advance(0, GREAT), GREAT + 1);
        Bounds.promise(41, "claim");
        index("person 2", y -> y.claim(2));
        index("person -1", y -> y.claim(-1));
        Bounds.same("claim", x.claim(0), GREAT + 1);
        Bounds.same("claim", x.claim(1), 0);
    }

    private static void payouts() {
        Bounds.promise(42, "payout");
        index("run 2", y -> y.payout(2, 0));
        index("run -1", y -> y.payout(-1, 0));
        index("person 2", y -> y.payout(0, 2));
        index("person -1", y -> y.payout(0, -1));
        Bounds.promise(43, "comeBack");
        Bounds.sentence("if the payout is 0, or came back already");
        index("run 2", y -> y.comeBack(2, 0));
        index("run -1", y -> y.comeBack(-1, 0));
        index("person 2", y -> y.comeBack(0, 2));
        index("person -1", y -> y.comeBack(0, -1));
        state("came back already", y -> y.comeBack(0, 1));
        Bounds.refused(Bounds.STATE, "a payout of 0", () -> {
            PayHouse x = Bounds.standing();
            x.setReach(0);
            x.correct(0);
            return x;
        }, y -> y.comeBack(2, 0));
        Bounds.refused(Bounds.STATE, "who came behind the run", () -> {
            PayHouse x = Bounds.standing();
            x.person();
            return x;
        }, y -> y.comeBack(1, 2));
        PayHouse x = Bounds.ruled("pay a=1;");
        x.run();
        Bounds.same("a payout of 1", x.comeBack(0, 0), 1);
        Bounds.same("the payout stays told", x.payout(0, 0), 1);
        Bounds.refusedBy(x, Bounds.STATE, "it came back already", y -> y.comeBack(0, 0));
        x.run();
        Bounds.refusedBy(x, Bounds.STATE, "it came back already", y -> y.comeBack(0, 0));
        Bounds.same("the next one", x.comeBack(1, 0), 2);
    }

    private static void authorities() {
        Bounds.promise(44, "owed");
        index("authority 4", y -> y.owed(4));
        index("authority -1", y -> y.owed(-1));
        Bounds.promise(45, "file");
        index("authority 4", y -> y.file(4));
        index("authority -1", y -> y.file(-1));
        Bounds.Maker full = () -> {
            PayHouse x = Bounds.standing();
            for (int i = 2; i <= 20; i++) {
                Bounds.same("file", x.file(1), i);
            }
            return x;
        };
        Bounds.refused(Bounds.STATE, "the 21st", full, y -> y.file(1));
        Bounds.refused(Bounds.INDEX, "an authority is first", full, y -> y.file(4));
        PayHouse x = full.make();
        for (int i = 1; i <= 20; i++) {
            Bounds.same("another authority", x.file(3), i);
        }
        Bounds.promise(46, "filed");
        index("authority 4", y -> y.filed(4, 0, 0));
        index("month 60", y -> y.filed(1, 0, 60));
        index("an authority is first", y -> y.filed(-1, 9, 0));
        index("a month is first", y -> y.filed(1, 9, -1));
        element("filing 1", y -> y.filed(1, 1, 0));
        element("filing -1", y -> y.filed(1, -1, 0));
        element("filing MAX", y -> y.filed(1, Bounds.MOST, 0));
        element("filing MIN", y -> y.filed(1, Bounds.LEAST, 0));
        element("another authority's", y -> y.filed(2, 0, 0));
        Bounds.same("filed", x.filed(1, 0, 0), 150);
        Bounds.same("filed", x.filed(1, 19, 59), 0);
        Bounds.promise(47, "remit");
        Bounds.sentence("if less is owed");
        index("authority 4", y -> y.remit(4, 1));
        index("an authority is first", y -> y.remit(-1, 0));
        argument("0", y -> y.remit(1, 0));
        argument("-1", y -> y.remit(1, -1));
        argument("too much", y -> y.remit(1, GREAT + 1));
        argument("an amount is first", y -> y.remit(0, GREAT + 1));
        argument("2^32", y -> y.remit(1, (1L << 32) + 1));
        state("1 more than is owed", y -> y.remit(1, 291));
        state("nothing is owed", y -> y.remit(0, 1));
        PayHouse z = Bounds.standing();
        Bounds.same("all that is owed", z.remit(1, 290), 0);
        Bounds.refusedBy(z, Bounds.STATE, "nothing is owed", y -> y.remit(1, 1));
        PayHouse great = Bounds.ruled("hold 0 a=999999999*2;");
        great.run();
        Bounds.same("the most", great.remit(0, GREAT), 999999998);
        Bounds.same("less than the most", great.remit(0, 999999998), 0);
        Bounds.promise(48, "balance");
        argument("-1", y -> y.balance(-1));
        argument("5", y -> y.balance(5));
        // An advance, two runs with a withholding and two payouts each, one that came back, two remittances.
        long bank = -20 - (100 + 800 + 430) - (100 + 800 + 450) + 430 - 10 - 290;
        long[] due = {bank, 2 * 1500 + 4 * 5, -4 * 5, 0, -430};
        for (int account = 0; account < 5; account++) {
            Bounds.same("account " + account, z.balance(account), due[account]);
        }
    }

    private static void checksums() {
        Bounds.promise(49, "checksum");
        Bounds.sentence("Returns c, which is 0 at first and becomes 31 * c + n (as longs that wrap) for each of the following numbers n: "
                + "the moment; the present month; for each person the claim, the waiting amount and the sum of all settled amounts of pay "
                + "lines; for each withholding its rest; the balance of the bank.");
        Bounds.same("a new object", new PayHouse().checksum(), 0);
        PayHouse one = Bounds.people(1);
        one.advance(0, 1);
        Bounds.same("a claim and the bank", one.checksum(), 31L * 31 * 31 - 1);
        PayHouse great = new PayHouse();
        for (int i = 0; i < 6; i++) {
            great.person();
        }
        Bounds.loaded(great, 0, "pay a=100000000*1000000;pay b=a;hold 1 c=-a;cost 2 d=a;e=a;");
        for (int i = 0; i < 8; i++) {
            great.withhold(i % 6, 0, GREAT - i, 10 + i);
        }
        great.advance(5, GREAT);
        for (int i = 0; i < 5; i++) {
            great.run();
        }
        great.comeBack(3, 2);
        long sum = 0;
        long[] numbers = new long[2 + 18 + 8 + 1];
        int count = 0;
        numbers[count++] = 1;
        numbers[count++] = 5;
        for (int person = 0; person < 6; person++) {
            numbers[count++] = great.claim(person);
            numbers[count++] = person == 2 ? great.payout(3, 2) : 0;
            numbers[count++] = 10 * Bounds.LIMIT;
        }
        for (int i = 0; i < 8; i++) {
            numbers[count++] = great.restOf(i);
        }
        numbers[count++] = great.balance(0);
        for (long number : numbers) {
            sum = 31 * sum + number;
        }
        Bounds.same("it wraps", great.checksum(), sum);
        Bounds.same("once more", great.checksum(), sum);
    }

    private static void means() {
        Bounds.promise(50, "meanNet");
        index("run 2", y -> y.meanNet(2));
        index("run -1", y -> y.meanNet(-1));
        index("run MAX", y -> y.meanNet(Bounds.MOST));
        Bounds.sentence("Returns the sum of the nets of all persons there were at the run, converted to double, divided by their number, "
                + "converted to double; 0.0 without persons.");
        PayHouse none = new PayHouse();
        none.run();
        Bounds.sameReal("without persons", none.meanNet(0), 0.0);
        none.person();
        Bounds.sameReal("without persons then", none.meanNet(0), 0.0);
        PayHouse x = Bounds.ruled("pay a=fact h;");
        for (int i = 0; i < 5; i++) {
            x.tell(i, H, 0, 0, 59, i * i + 1);
            x.run();
            x.person();
            long sum = 0;
            for (int person = 0; person <= i; person++) {
                sum += x.net(i, person);
            }
            Bounds.sameReal("of " + (i + 1), x.meanNet(i), (double) sum / (double) (i + 1));
        }
        x.tell(3, H, 0, 0, 59, -7);
        x.correct(3);
        Bounds.sameReal("in a run of correct()", x.meanNet(5), (double) x.net(5, 3) / 6.0);
        Bounds.sameReal("below 0", x.meanNet(5), -17.0 * 5 / 6.0);
    }

    private static void lateShares() {
        Bounds.promise(51, "lateShare");
        Bounds.sentence("Returns their number, converted to float, divided by the number of all entries, converted to float; 0.0f without "
                + "entries.");
        PayHouse x = Bounds.ruled("pay a=fact h;pay b=0;");
        Bounds.sameReal("without runs", x.lateShare(), 0.0f);
        x.run();
        Bounds.sameReal("without entries", x.lateShare(), 0.0f);
        x.tell(0, H, 0, 1, 1, 1);
        x.run();
        Bounds.sameReal("none is late", x.lateShare(), 0.0f);
        x.tell(0, H, 0, 0, 0, 1);
        x.correct(0);
        Bounds.sameReal("1 of 2", x.lateShare(), 0.5f);
        x.tell(0, H, 0, 1, 1, 3);
        x.correct(0);
        Bounds.sameReal("1 of 3", x.lateShare(), 1.0f / 3.0f);
        x.tell(0, H, 0, 0, 1, 4);
        x.run();
        Bounds.sameReal("3 of 5", x.lateShare(), 3.0f / 5.0f);
        PayHouse all = Bounds.ruled("pay a=fact h;");
        all.run();
        all.tell(0, H, 0, 0, 0, 1);
        all.run();
        Bounds.sameReal("all are late", all.lateShare(), 1.0f);
    }

    private static void errors() {
        Bounds.promise(52, "errors");
        Bounds.sentence("Returns the number; always 0.");
        Bounds.same("a new object", new PayHouse().errors(), 0);
        Bounds.same("a standing one", Bounds.standing().errors(), 0);
        PayHouse x = Bounds.standing();
        x.file(2);
        x.tell(0, H, 2, 0, 59, -40);
        x.run();
        Bounds.same("settled behind a filing", x.errors(), 0);
        x.file(2);
        Bounds.loaded(x, 1, "hold 2 a=fact h*3;");
        x.correct(0);
        x.takeBack(7);
        Bounds.same("taken back behind a run", x.errors(), 0);
        Bounds.same("asked twice", x.errors(), 0);
    }

    private static void asks(String what, Bounds.Call call) {
        Bounds.leaves(what, Bounds::standing, call);
    }

    private static void askingChangesNothing() {
        Bounds.sentence("Nothing is promised beyond the answers and state changes described above");
        asks("type(0)", y -> y.type(0));
        asks("outputByte", y -> y.outputByte(0));
        asks("faultKind", y -> y.faultKind());
        asks("versionInForce", y -> y.versionInForce(9, 6));
        asks("definitions", y -> y.definitions(1));
        asks("definedName", y -> y.definedName(1, 0));
        asks("lineKind", y -> y.lineKind(1, A));
        asks("value", y -> y.value(1, D, 59, 5));
        asks("valueIf", y -> y.valueIf(0, D, 8, H, 8, 5));
        asks("valueIf of a month settled", y -> y.valueIf(0, A, 1, H, 1, 5));
        asks("explained", y -> y.explained(0, D, 8));
        asks("explainedMonth", y -> y.explainedMonth(0, D, 8, 8));
        asks("explainedName", y -> y.explainedName(0, D, 8, 8));
        asks("moment", y -> y.moment());
        asks("factAt", y -> y.factAt(1, H, 5, 4));
        asks("sourceAt", y -> y.sourceAt(1, H, 5, 4));
        asks("pieces", y -> y.pieces(1, H, 4));
        asks("changes", y -> y.changes(1, H, 5));
        asks("firstChange", y -> y.firstChange(1, 2, 4));
        asks("presentMonth", y -> y.presentMonth());
        asks("setReach to the same", y -> y.setReach(7));
        asks("entries", y -> y.entries(1, 0));
        asks("entryAt", y -> y.entryAt(1, 0, 0, 3));
        asks("net", y -> y.net(1, 1));
        asks("lateNet", y -> y.lateNet(1, 1));
        asks("settled", y -> y.settled(1, n("zz"), 8, 59));
        asks("again", y -> y.again(0, 1) + y.again(1, 1));
        asks("setProtected to the same", y -> y.setProtected(1, 50));
        asks("restOf", y -> y.restOf(0));
        asks("claim", y -> y.claim(0));
        asks("payout", y -> y.payout(0, 1));
        asks("owed", y -> y.owed(1));
        asks("filed", y -> y.filed(1, 0, 59));
        asks("balance", y -> y.balance(0));
        asks("checksum", y -> y.checksum());
        asks("meanNet", y -> y.meanNet(1));
        asks("lateShare", y -> y.lateShare());
        asks("errors", y -> y.errors());
        PayHouse x = Bounds.standing();
        int length = x.write(0);
        Bounds.same("errors", x.errors(), 0);
        x.load(0);
        Bounds.same("the output stays", x.outputByte(length - 1), ';');
        Bounds.same("the output stays", x.outputByte(length), -1);
    }

    private static void manyCalls() {
        Bounds.sentence("An object is used for at most 512 calls after it has been made;");
        PayHouse x = new PayHouse();
        int calls = 0;
        for (int i = 0; i < 6; i++, calls++) {
            x.person();
        }
        for (int version = 0; version < 12; version++, calls += 6) {
            String text = "pay z=fact h+last z+year z;pay z" + (char) ('a' + version) + "=z;";
            Bounds.same("load", Bounds.loaded(x, version, text), version);
        }
        for (int i = 0; i < 8; i++, calls++) {
            x.withhold(i % 6, i, 1000, 10);
        }
        for (int i = 0; i < 120; i++, calls++) {
            x.tell(i % 6, H, i % 3, i % 60, 59, i);
            if (i % 2 == 0) {
                x.run();
                x.file(i / 2 % 4);
                calls += 2;
            } else if (i % 4 == 1) {
                x.correct(i % 6);
                calls++;
            }
        }
        for (int i = calls; i < 511; i++) {
            Bounds.same("a call", x.again(i % 90, i % 6), 0);
        }
        Bounds.same("the 512th call", x.errors(), 0);
    }
}
