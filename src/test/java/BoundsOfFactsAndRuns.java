/** The boundaries that the sections 3 to 5 of the document name: facts, runs, payments, filings, the journal. */
public final class BoundsOfFactsAndRuns {
    private static final long GREAT = Bounds.AMOUNT;

    public static void main(String[] args) {
        statements();
        whatCounts();
        factsFromTheLimits();
        textOfFacts();
        numbersThatDoNotFit();
        noNamesInTheText();
        settledAmounts();
        settling();
        runs();
        corrections();
        reach();
        slips();
        manyLines();
        runsAheadOfVersions();
        nets();
        belowNothing();
        claimsTake();
        withholdingsTake();
        shares();
        allSmallPayments();
        advancesAndReturns();
        owing();
        filings();
        journal();
        Bounds.finish(args);
    }

    private static long n(String name) {
        return Bounds.n(name);
    }

    // ---- facts

    private static void statements() {
        Bounds.sentence("A statement concerns a person, a name, a source (0 to 2) and a span of months; it either tells a value for this "
                + "fact, or withdraws what the source told before. A statement can be taken back; this is a statement as well, but "
                + "concerns the other statement alone.");
        PayHouse x = Bounds.people(2);
        for (int source = 0; source < 3; source++) {
            Bounds.same("tell", x.tell(0, n("h"), source, 10 + source, 20, source + 5), source + 1);
        }
        int[] due = {-1, 0, 1, 2, 2};
        for (int i = 0; i < due.length; i++) {
            Bounds.same("the source in " + (9 + i), x.sourceAt(0, n("h"), 9 + i, 3), due[i]);
        }
        Bounds.same("the last month", x.factAt(0, n("h"), 20, 3), 7);
        Bounds.same("behind it", x.sourceAt(0, n("h"), 21, 3), -1);
        Bounds.same("another person", x.sourceAt(1, n("h"), 15, 3), -1);
        Bounds.same("another name", x.sourceAt(0, n("hh"), 15, 3), -1);
        Bounds.same("withdraw", x.withdraw(0, n("h"), 2, 15, 16), 4);
        int[] sources = {2, 1, 1, 2};
        for (int i = 0; i < sources.length; i++) {
            Bounds.same("the source in " + (14 + i), x.sourceAt(0, n("h"), 14 + i, 4), sources[i]);
        }
        Bounds.same("told behind the withdrawal", x.tell(0, n("h"), 2, 16, 16, 9), 5);
        Bounds.same("it counts", x.factAt(0, n("h"), 16, 5), 9);
        Bounds.same("the withdrawal counts still", x.factAt(0, n("h"), 15, 5), 6);
        Bounds.same("taken back", x.takeBack(4), 6);
        Bounds.same("the withdrawal is gone", x.factAt(0, n("h"), 15, 6), 7);
        Bounds.same("the other one stays", x.factAt(0, n("h"), 16, 6), 9);
        Bounds.same("as of the moment ahead", x.factAt(0, n("h"), 15, 5), 6);
        Bounds.refused(Bounds.ARGUMENT, "a taking back taken back", Bounds::standing, y -> y.takeBack(5));
        Bounds.refusedBy(x, Bounds.ARGUMENT, "a taking back taken back", y -> y.takeBack(6));
        Bounds.refusedBy(x, Bounds.STATE, "taken back already", y -> y.takeBack(4));
    }

    private static void whatCounts() {
        Bounds.sentence("As of a moment, of the statements known that were not taken back by a statement known as well, and concern a "
                + "person and a name and a span with the month: for each source the latest one counts; it gives a value if it tells one. "
                + "The fact has the value of the greatest source that gives one; if none does, it has none.");
        PayHouse x = Bounds.people(1);
        x.tell(0, n("h"), 1, 0, 59, 1);
        x.tell(0, n("h"), 1, 0, 59, 2);
        x.tell(0, n("h"), 0, 0, 59, 3);
        Bounds.same("the latest one of the greatest source", x.factAt(0, n("h"), 0, 3), 2);
        x.takeBack(2);
        Bounds.same("the one ahead of it", x.factAt(0, n("h"), 0, 4), 1);
        x.takeBack(1);
        Bounds.same("a smaller source", x.factAt(0, n("h"), 0, 5), 3);
        Bounds.same("a smaller source", x.sourceAt(0, n("h"), 0, 5), 0);
        x.takeBack(3);
        Bounds.same("none", x.sourceAt(0, n("h"), 0, 6), -1);
        Bounds.same("none", x.factAt(0, n("h"), 0, 6), 0);
        int[] due = {0, 1, 2, 2, 1, 3, 0};
        for (int moment = 0; moment < due.length; moment++) {
            Bounds.same("as of " + moment, x.factAt(0, n("h"), 0, moment), due[moment]);
        }
        x.withdraw(0, n("h"), 2, 0, 59);
        x.tell(0, n("h"), 1, 0, 59, 7);
        Bounds.same("a withdrawal gives none", x.factAt(0, n("h"), 0, 8), 7);
        x.withdraw(0, n("h"), 1, 0, 59);
        x.tell(0, n("h"), 1, 3, 3, 8);
        Bounds.same("all withdrawn", x.sourceAt(0, n("h"), 2, 10), -1);
        Bounds.same("told again", x.factAt(0, n("h"), 3, 10), 8);
        x.takeBack(9);
        Bounds.same("a withdrawal taken back", x.factAt(0, n("h"), 2, 11), 7);
        x.tell(0, n("h"), 2, 2, 2, 0);
        Bounds.same("a 0 is a value", x.sourceAt(0, n("h"), 2, 12), 2);
        Bounds.same("a 0 is a value", x.factAt(0, n("h"), 2, 12), 0);
    }

    private static void factsFromTheLimits() {
        PayHouse x = Bounds.people(1);
        x.tell(0, n("h"), 0, 0, 0, 1);
        x.tell(0, n("h"), 0, 59, 59, 2);
        x.tell(0, n("h"), 0, 30, 30, 3);
        long[] due = {1, 0, 3, 0, 2};
        int[] months = {0, 1, 30, 58, 59};
        for (int i = 0; i < due.length; i++) {
            Bounds.same("in " + months[i], x.factAt(0, n("h"), months[i], 3), due[i]);
        }
        Bounds.same("29", x.sourceAt(0, n("h"), 29, 3), -1);
        Bounds.same("31", x.sourceAt(0, n("h"), 31, 3), -1);
        x.tell(0, n("h"), 1, 0, 59, -1000000000);
        Bounds.same("the smallest one", x.factAt(0, n("h"), 59, 4), -1000000000);
        x.tell(0, n("h"), 2, 0, 59, 1000000000);
        Bounds.same("the greatest one", x.factAt(0, n("h"), 0, 5), 1000000000);
    }

    private static void told(String text, int count) {
        PayHouse x = Bounds.people(2);
        Bounds.same("tellText of " + text, Bounds.told(x, text), count);
        Bounds.same("the moment after " + text, x.moment(), count);
        Bounds.same("the text after " + text, x.type(0), 0);
    }

    private static void fault(String text, int place) {
        PayHouse x = Bounds.people(2);
        x.tell(1, n("h"), 0, 7, 7, 7);
        Bounds.same("tellText of " + text, Bounds.told(x, text), -3 - place);
        Bounds.same("the moment after " + text, x.moment(), 1);
        Bounds.same("the text after " + text, x.type(0), 0);
        Bounds.same("no statement of " + text, x.firstChange(0, 0, 1), -1);
        Bounds.same("no load", x.faultKind(), 0);
    }

    private static void textOfFacts() {
        Bounds.sentence("the person, the name, the source, the first and the last month, and the value, or none for a withdrawal.");
        PayHouse x = Bounds.people(2);
        Bounds.same("three", Bounds.told(x, "1 h 2 3-4=5;0 k 0 0-59=-6;1 h 2 4-4 none;"), 3);
        Bounds.same("in the order", x.factAt(1, n("h"), 4, 1), 5);
        Bounds.same("in the order", x.factAt(0, n("k"), 59, 2), -6);
        Bounds.same("in the order", x.sourceAt(1, n("h"), 4, 3), -1);
        Bounds.same("the source", x.sourceAt(1, n("h"), 3, 3), 2);
        Bounds.same("ahead of the span", x.sourceAt(1, n("h"), 2, 3), -1);
        Bounds.same("the source", x.sourceAt(0, n("k"), 0, 3), 0);
        Bounds.same("the greatest number", Bounds.told(x, "0h0 0-0=999999999;"), 1);
        Bounds.same("the greatest number", x.factAt(0, n("h"), 0, 4), 999999999);
        Bounds.same("the smallest number", Bounds.told(x, "0h0 0-0=-999999999;"), 1);
        Bounds.same("the smallest number", x.factAt(0, n("h"), 0, 5), -999999999);
        Bounds.same("a taking back of one of them", x.takeBack(5), 6);
        fault("0h0 0-0=1000000000;", 8);
        fault("0h0 0-0=0000000000;", 8);
        fault("0h0 0-0=-1000000000;", 9);
        told("", 0);
        told("0h0 0-0 none;", 1);
        fault("0h0 0-0=none;", 8);
        fault("0h0 0-0-none;", 7);
        fault("0h0 0-0 - 1;", 8);
        fault("0h0 0-0=1;0h0 0-0=1;0h0 0-0=1", 29);
    }

    private static void numbersThatDoNotFit() {
        Bounds.sentence("A number that does not fit (no such person, a source above 2, a month above 59, a last month ahead of the first "
                + "one) cannot stand; nor can the number of the person if there are 120 statements then.");
        told("1h0 0-0=1;", 1);
        fault("2h0 0-0=1;", 0);
        fault("6h0 0-0=1;", 0);
        fault("999999999h0 0-0=1;", 0);
        told("01h0 0-0=1;", 1);
        told("0h2 0-0=1;", 1);
        fault("0h3 0-0=1;", 2);
        told("0h02 0-0=1;", 1);
        told("0h0 59-59=1;", 1);
        fault("0h0 60-60=1;", 4);
        fault("0h0 60-59=1;", 4);
        told("0h0 0-59=1;", 1);
        fault("0h0 0-60=1;", 6);
        fault("0h0 59-60=1;", 7);
        told("0h0 7-7=1;", 1);
        fault("0h0 7-6=1;", 6);
        fault("0h0 1-0=1;", 6);
        told("0h0 000000000-000000059=1;", 1);
        fault("0h0 0000000000-0=1;", 4);
        fault("2 2", 0);
        PayHouse none = new PayHouse();
        Bounds.same("no person at all", Bounds.told(none, "0h0 0-0=1;"), -3);
        PayHouse six = Bounds.people(6);
        Bounds.same("the 6th person", Bounds.told(six, "5h0 0-0=1;"), 1);
        Bounds.same("the 7th person", Bounds.told(six, "6h0 0-0=1;"), -3);
        PayHouse x = Bounds.people(1);
        for (int i = 0; i < 118; i++) {
            x.withdraw(0, n("k"), 0, 0, 0);
        }
        Bounds.same("118 and 3", Bounds.told(x, "0h0 0-0=1;0h0 0-0=2;0h0 0-0=3;"), -23);
        Bounds.same("none is made", x.moment(), 118);
        Bounds.same("a fault ahead", Bounds.told(x, "0h0 0-0=1;0h3 0-0=2;0h0 0-0=3;"), -15);
        Bounds.same("another token than a number", Bounds.told(x, "0h0 0-0=1;0h0 0-0=2; h"), -24);
        Bounds.same("a person who is not", Bounds.told(x, "0h0 0-0=1;0h0 0-0=2; 7"), -24);
        Bounds.same("118 and 2", Bounds.told(x, "0h0 0-0=1;0h0 0-0=2;   "), 2);
        Bounds.same("both count", x.factAt(0, n("h"), 0, 120), 2);
        Bounds.same("120 and 1", Bounds.told(x, "  0h0 0-0=1;"), -5);
        Bounds.same("120 and none", Bounds.told(x, "  "), 0);
        PayHouse back = Bounds.people(1);
        for (int i = 0; i < 60; i++) {
            back.tell(0, n("k"), 0, 0, 0, 1);
        }
        for (int i = 1; i < 60; i++) {
            back.takeBack(i);
        }
        Bounds.same("those that take back count too", Bounds.told(back, "0h0 0-0=1;0h0 0-0=2;"), -13);
        Bounds.same("one more", Bounds.told(back, "0h0 0-0=1;"), 1);
        Bounds.refusedBy(back, Bounds.STATE, "the 121st", y -> y.takeBack(60));
    }

    private static void noNamesInTheText() {
        Bounds.sentence("The word none is no name here, and the words of section 2 are no names here either.");
        fault("0none0 0-0=1;", 1);
        fault("0 none 0 0-0 none;", 2);
        told("0nonee0 0-0=1;", 1);
        told("0non0 0-0=1;", 1);
        for (String word : Bounds.WORDS) {
            fault("0" + word + " 0 0-0=1;", 1);
            told("0" + word + "x 0 0-0=1;", 1);
        }
        told("0abcdefgh 0 0-0=1;", 1);
        fault("0abcdefghi 0 0-0=1;", 1);
        fault("0H0 0-0=1;", 1);
        fault("0 0 0 0-0=1;", 2);
        PayHouse x = Bounds.ruled("none=fact none;");
        x.tell(0, n("none"), 0, 0, 0, 3);
        Bounds.same("a name elsewhere", x.value(0, n("none"), 0, 2), 3);
        Bounds.same("a withdrawal", Bounds.told(x, "0nonee0 0-0none;"), 1);
    }

    // ---- runs

    private static void settledAmounts() {
        Bounds.sentence("The present month is 0 at first. A line is known by its name and its kind: pay (0), hold for the authority k "
                + "(1 + k), cost for the authority k (5 + k). For each person, month and line there is a settled amount, 0 at first.");
        Bounds.same("at first", new PayHouse().presentMonth(), 0);
        String[] rules = {"pay a=7;", "hold 0 a=7;", "hold 1 a=7;", "hold 2 a=7;", "hold 3 a=7;", "cost 0 a=7;", "cost 1 a=7;",
            "cost 2 a=7;", "cost 3 a=7;"};
        for (int kind = 0; kind < 9; kind++) {
            PayHouse x = Bounds.ruled(rules[kind]);
            x.person();
            Bounds.same("at first", x.settled(0, n("a"), kind, 0), 0);
            x.run();
            for (int other = 0; other < 9; other++) {
                Bounds.same(rules[kind] + " as kind " + other, x.settled(0, n("a"), other, 0), other == kind ? 7 : 0);
            }
            Bounds.same("the month behind", x.settled(0, n("a"), kind, 1), 0);
            Bounds.same("another person", x.settled(1, n("a"), kind, 0), 7);
            Bounds.same("another name", x.settled(0, n("b"), kind, 0), 0);
            Bounds.same("entry's kind", x.entryAt(0, 0, 0, 2), kind);
            Bounds.same("lineKind", x.lineKind(0, n("a")), kind);
        }
        PayHouse y = Bounds.ruled("pay a=7;");
        y.run();
        y.person();
        Bounds.same("a person who came behind", y.settled(1, n("a"), 0, 0), 0);
    }

    private static void settling() {
        Bounds.sentence("To settle a month of a person: for each line of the version that is in force in this month, and each line whose "
                + "settled amount is not 0, in the order of names, then of kinds, the due amount is the value of the line's name for the "
                + "person and the month, if the line is in this version, and 0 otherwise. If it differs from the settled amount, the "
                + "difference is an entry of the slip, and the due amount is settled.");
        PayHouse x = Bounds.ruled("pay a=fact h;hold 1 b=0;");
        x.run();
        Bounds.same("a due amount of 0", x.entries(0, 0), 0);
        x.tell(0, n("h"), 0, 0, 0, 5);
        x.run();
        Bounds.same("a difference", x.entries(1, 0), 1);
        Bounds.same("a difference", x.entryAt(1, 0, 0, 3), 5);
        x.run();
        Bounds.same("no difference", x.entries(2, 0), 0);
        x.tell(0, n("h"), 0, 0, 0, 4);
        x.run();
        Bounds.same("1 less", x.entryAt(3, 0, 0, 3), -1);
        Bounds.same("settled", x.settled(0, n("a"), 0, 0), 4);
        x.withdraw(0, n("h"), 0, 0, 0);
        x.run();
        Bounds.same("back to 0", x.entryAt(4, 0, 0, 3), -4);
        x.run();
        Bounds.same("settled 0 is no entry", x.entries(5, 0), 0);
        PayHouse y = Bounds.ruled("pay a=1;hold 0 a" + "b=2;cost 3 b=3;");
        y.run();
        Bounds.loaded(y, 0, "cost 3 a=4;hold 0 ab=2;b=9;hold 3 aa=5;");
        y.setReach(1);
        y.run();
        // In the month 0: a as pay is no more, a as cost is new, b is no line any more.
        long[][] due = {{0, n("a"), 0, -1}, {0, n("a"), 8, 4}, {0, n("aa"), 4, 5}, {0, n("b"), 8, -3}, {1, n("a"), 8, 4},
            {1, n("aa"), 4, 5}, {1, n("ab"), 1, 2}};
        Bounds.same("entries", y.entries(1, 0), due.length);
        for (int i = 0; i < due.length; i++) {
            for (int what = 0; what < 4; what++) {
                Bounds.same("entry " + i, y.entryAt(1, 0, i, what), due[i][what]);
            }
        }
        Bounds.same("settled to 0", y.settled(0, n("a"), 0, 0), 0);
        PayHouse z = Bounds.ruled("pay a=" + "100000000*1000000;");
        z.run();
        Bounds.loaded(z, 0, "pay a=-100000000*1000000;");
        z.run();
        Bounds.same("the greatest difference", z.entryAt(1, 0, 0, 3), -2 * Bounds.LIMIT);
        Bounds.same("settled", z.settled(0, n("a"), 0, 1), -Bounds.LIMIT);
        Bounds.same("again", z.again(1, 0), 0);
    }

    private static void runs() {
        Bounds.sentence("run() settles, for each person in ascending order, the months from the present month less the reach (but not "
                + "before 0) up to the present month, in ascending order; then the payments of section 5 are made for each person in "
                + "ascending order; then the present month is 1 more.");
        PayHouse x = Bounds.ruled("pay a=month+fact h+1;");
        x.person();
        for (int month = 0; month < 60; month++) {
            Bounds.same("the present month", x.presentMonth(), month);
            Bounds.same("run", x.run(), month);
            Bounds.same("one entry", x.entries(month, 1), 1);
            Bounds.same("its month", x.entryAt(month, 0, 0, 0), month);
            Bounds.same("payout", x.payout(month, 1), month + 1);
        }
        Bounds.same("at last", x.presentMonth(), 60);
        Bounds.refused(Bounds.STATE, "the month 60", () -> {
            PayHouse y = Bounds.standing();
            for (int month = 2; month < 60; month++) {
                y.run();
            }
            return y;
        }, y -> y.run());
        Bounds.refusedBy(x, Bounds.STATE, "the month 60", y -> y.run());
        x.tell(1, n("h"), 0, 0, 59, 10);
        Bounds.same("correct", x.correct(1), 60);
        Bounds.same("in the month 60", x.entries(60, 1), 59);
        Bounds.same("from the month 1 on", x.entryAt(60, 1, 0, 0), 1);
        Bounds.same("up to the month 59", x.entryAt(60, 1, 58, 0), 59);
        Bounds.same("late", x.lateNet(60, 1), 580);
    }

    private static void corrections() {
        Bounds.sentence("correct() settles the months of one person from the present month less the reach (but not before 0) up to the "
                + "month before the present one (none with the reach 0), and makes payments for this person.");
        Bounds.refused(Bounds.STATE, "the month 0", () -> Bounds.ruled("pay a=1;"), y -> y.correct(0));
        Bounds.refused(Bounds.INDEX, "a person is first", () -> Bounds.ruled("pay a=1;"), y -> y.correct(1));
        PayHouse x = Bounds.ruled("pay a=fact h;");
        x.person();
        x.run();
        x.tell(0, n("h"), 0, 0, 59, 10);
        x.tell(1, n("h"), 0, 0, 59, 20);
        Bounds.same("in the month 1", x.correct(1), 1);
        Bounds.same("the month 0", x.entries(1, 1), 1);
        Bounds.same("the month 0", x.entryAt(1, 1, 0, 0), 0);
        Bounds.same("the other person", x.entries(1, 0), 0);
        Bounds.same("the other person", x.settled(0, n("a"), 0, 0), 0);
        Bounds.same("payout", x.payout(1, 1), 20);
        Bounds.same("no payout", x.payout(1, 0), 0);
        Bounds.same("the same month", x.presentMonth(), 1);
        for (int i = 0; i < 4; i++) {
            x.run();
        }
        x.tell(0, n("h"), 0, 0, 59, 11);
        x.setReach(0);
        x.comeBack(5, 1);
        Bounds.same("with the reach 0", x.correct(0), 6);
        Bounds.same("no month", x.entries(6, 0), 0);
        Bounds.same("no payout", x.payout(6, 0), 0);
        Bounds.same("with the reach 0", x.correct(1), 7);
        Bounds.same("payments are made", x.payout(7, 1), 20);
        Bounds.same("late", x.lateNet(7, 1), 0);
        x.setReach(1);
        x.correct(0);
        Bounds.same("with the reach 1", x.entries(8, 0), 1);
        Bounds.same("the month ahead", x.entryAt(8, 0, 0, 0), 4);
        Bounds.same("it is not late", x.lateNet(8, 0), 0);
        x.setReach(3);
        x.correct(0);
        Bounds.same("with the reach 3", x.entries(9, 0), 2);
        Bounds.same("the first one", x.entryAt(9, 0, 0, 0), 2);
        x.setReach(5);
        x.correct(0);
        Bounds.same("with the reach 5", x.entryAt(10, 0, 0, 0), 0);
        Bounds.same("errors", x.errors(), 0);
    }

    private static void reach() {
        Bounds.sentence("The reach is 59 at first.");
        Bounds.same("at first", new PayHouse().setReach(0), 59);
        int[] reaches = {0, 1, 2, 58, 59};
        for (int reach : reaches) {
            PayHouse x = Bounds.ruled("pay a=fact h;");
            x.setReach(reach);
            for (int i = 0; i < 59; i++) {
                x.run();
            }
            x.tell(0, n("h"), 0, 0, 59, 1);
            x.run();
            Bounds.same("entries with the reach " + reach, x.entries(59, 0), reach + 1);
            Bounds.same("the first one", x.entryAt(59, 0, 0, 0), 59 - reach);
        }
        for (int reach : reaches) {
            PayHouse x = Bounds.ruled("pay a=fact h;");
            x.setReach(reach);
            x.run();
            x.tell(0, n("h"), 0, 0, 59, 1);
            x.run();
            Bounds.same("in the month 1 with the reach " + reach, x.entries(1, 0), reach == 0 ? 1 : 2);
        }
        int[] wrong = {-1, 60, Bounds.LEAST, Bounds.MOST};
        for (int months : wrong) {
            Bounds.refused(Bounds.ARGUMENT, "setReach(" + months + ")", Bounds::standing, y -> y.setReach(months));
        }
    }

    private static void slips() {
        Bounds.sentence("A person has one slip in each run (an empty one, if it is a run of correct() for another person).");
        PayHouse x = Bounds.ruled("pay a=fact h+1;");
        x.person();
        x.run();
        x.tell(0, n("h"), 0, 0, 0, 5);
        x.correct(1);
        Bounds.same("an empty one", x.entries(1, 0), 0);
        Bounds.same("net", x.net(1, 0), 0);
        Bounds.same("late", x.lateNet(1, 0), 0);
        Bounds.same("payout", x.payout(1, 0), 0);
        Bounds.same("again", x.again(1, 0), 0);
        Bounds.refused(Bounds.ELEMENT, "an entry", Bounds::standing, y -> y.entryAt(1, 0, 99, 0));
        Bounds.refusedBy(x, Bounds.ELEMENT, "an entry", y -> y.entryAt(1, 0, 0, 0));
        x.comeBack(0, 0);
        x.correct(1);
        Bounds.same("the waiting amount stays", x.balance(4), -1);
        Bounds.same("nothing is paid", x.payout(2, 0), 0);
        x.correct(0);
        Bounds.same("then", x.payout(3, 0), 6);
    }

    /** As many lines as 12 versions can have, each with an amount of its own. */
    private static void manyLines() {
        for (int asked = 0; asked < 12; asked++) {
            PayHouse x = Bounds.people(6);
            for (int version = 0; version < 12; version++) {
                StringBuilder rules = new StringBuilder();
                for (int i = 0; i < 16; i++) {
                    rules.append(i % 2 == 0 ? "pay" : "hold" + i / 2 % 4).append(" q").append((char) ('a' + version))
                            .append((char) ('a' + i)).append('=').append(16 * version + i + 1).append(';');
                }
                Bounds.same("load", Bounds.loaded(x, version, rules.toString()), version);
            }
            for (int i = 0; i < 13; i++) {
                x.run();
            }
            for (int i = 0; i < 16; i++) {
                long name = n("q" + (char) ('a' + asked) + (char) ('a' + i));
                int kind = i % 2 == 0 ? 0 : 1 + i / 2 % 4;
                long due = 16 * asked + i + 1;
                Bounds.same("settled", x.settled(i % 6, name, kind, asked), due);
                Bounds.same("the month behind", x.settled(5, name, kind, asked + 1), asked == 11 ? due : 0);
                Bounds.same("the name", x.entryAt(asked, 5, i, 1), name);
                Bounds.same("the kind", x.entryAt(asked, 5, i, 2), kind);
                Bounds.same("the difference", x.entryAt(asked, 5, i, 3), due);
            }
            Bounds.same("errors", x.errors(), 0);
        }
    }

    private static void runsAheadOfVersions() {
        PayHouse x = Bounds.people(2);
        x.run();
        x.run();
        Bounds.same("no entries", x.entries(1, 0), 0);
        Bounds.loaded(x, 1, "pay a=5+fact h;");
        x.run();
        Bounds.same("from the month 1 on", x.entries(2, 1), 2);
        Bounds.same("not the month 0", x.settled(1, n("a"), 0, 0), 0);
        Bounds.loaded(x, 0, "pay a=7;pay b=8;");
        x.run();
        Bounds.same("the month 0", x.settled(1, n("a"), 0, 0), 7);
        Bounds.same("b in the month 0", x.settled(1, n("b"), 0, 0), 8);
        Bounds.same("b behind", x.settled(1, n("b"), 0, 1), 0);
        for (int run = 0; run < 4; run++) {
            Bounds.same("again", x.again(run, 0) + x.again(run, 1), 0);
        }
        Bounds.same("as of the moment 0", x.value(0, n("a"), 1, 0), 0);
        Bounds.same("as of the moment 1", x.value(0, n("a"), 0, 1), 0);
        Bounds.same("errors", x.errors(), 0);
    }

    // ---- payments

    private static void nets() {
        Bounds.sentence("The net of a slip is the sum of its pay entries less the sum of its hold entries. For each person there is a "
                + "claim of the house and a waiting amount, both 0 at first, and a protected amount, 0 at first.");
        PayHouse x = Bounds.ruled("pay a=100;pay b=20;hold 0 c=7;hold 3 d=3;cost 0 e=1000;cost 3 f=1000;g=5;");
        Bounds.same("claim", x.claim(0), 0);
        Bounds.same("waiting", x.balance(4), 0);
        x.run();
        Bounds.same("net", x.net(0, 0), 110);
        Bounds.same("protected", x.setProtected(0, 9), 0);
        Bounds.same("still nothing is claimed", x.claim(0), 0);
        Bounds.same("payout", x.payout(0, 0), 110);
    }

    /** A house with one person who has been paid 60 in the month 0, which came back as far as is waiting. */
    private static PayHouse payer(long net, long claim, long protect, boolean waits) {
        PayHouse x = Bounds.ruled("pay a=fact h;");
        if (waits) {
            x.tell(0, n("h"), 0, 0, 0, 60);
        }
        x.run();
        if (waits) {
            x.comeBack(0, 0);
        }
        x.tell(0, n("h"), 0, 1, 2, (int) net);
        if (claim > 0) {
            x.advance(0, claim);
        }
        x.setProtected(0, protect);
        return x;
    }

    private static void belowNothing() {
        Bounds.sentence("To make payments for a person in a run: let x be the net and the waiting amount together; the waiting amount "
                + "becomes 0. If x is below 0, the claim becomes greater by as much, and nothing else happens.");
        long[][] cases = {{-1, 1, 0}, {0, 0, 0}, {1, 0, 1}};
        for (long[] one : cases) {
            PayHouse x = payer(one[0], 0, 0, false);
            x.withhold(0, 0, 1, 1);
            x.correct(0);
            x.run();
            Bounds.same("the claim of " + one[0], x.claim(0), one[1]);
            Bounds.same("the payout of " + one[0], x.payout(2, 0), 0);
            Bounds.same("the rest of " + one[0], x.restOf(0), one[2] == 1 ? 0 : 1);
        }
        long[] nets = {-61, -60, -59};
        for (long net : nets) {
            PayHouse x = payer(net, 0, 0, true);
            Bounds.same("waiting", x.balance(4), -60);
            x.run();
            Bounds.same("the net", x.net(1, 0), net);
            Bounds.same("nothing waits", x.balance(4), 0);
            Bounds.same("the claim", x.claim(0), Math.max(0, -60 - net));
            Bounds.same("the payout", x.payout(1, 0), Math.max(0, 60 + net));
        }
        PayHouse more = payer(-5, 7, 0, false);
        more.run();
        Bounds.same("a claim there was", more.claim(0), 12);
        PayHouse saved = payer(-5, 7, 100, false);
        saved.run();
        Bounds.same("with a protected amount", saved.claim(0), 12);
    }

    private static void claimsTake() {
        Bounds.sentence("Otherwise the smaller one of the claim and of x less the protected amount (if that is above 0) goes from x to "
                + "the claim.");
        // net, claim, protected, and then the claim and the payout that are due
        long[][] cases = {{0, 5, 0, 5, 0}, {1, 5, 0, 4, 0}, {4, 5, 0, 1, 0}, {5, 5, 0, 0, 0}, {6, 5, 0, 0, 1}, {10, 5, 10, 5, 10},
            {11, 5, 10, 4, 10}, {9, 5, 10, 5, 9}, {15, 5, 10, 0, 10}, {14, 5, 10, 1, 10}, {16, 5, 10, 0, 11}, {0, 5, 10, 5, 0},
            {7, 0, 10, 0, 7}, {7, 0, 0, 0, 7}, {GREAT, GREAT, 0, 0, 0}, {GREAT, GREAT, 1, 1, 1}, {GREAT, 1, GREAT, 1, GREAT}};
        for (long[] one : cases) {
            PayHouse x = payer(one[0], one[1], one[2], false);
            x.run();
            String what = "of " + one[0] + ", " + one[1] + ", " + one[2];
            Bounds.same("the claim " + what, x.claim(0), one[3]);
            Bounds.same("the payout " + what, x.payout(1, 0), one[4]);
            Bounds.same("errors", x.errors(), 0);
        }
        PayHouse waits = payer(10, 100, 5, true);
        waits.run();
        Bounds.same("with what waits", waits.claim(0), 35);
        Bounds.same("with what waits", waits.payout(1, 0), 5);
        PayHouse corrected = payer(10, 4, 0, true);
        corrected.correct(0);
        Bounds.same("in a run of correct() too", corrected.claim(0), 0);
        Bounds.same("in a run of correct() too", corrected.payout(1, 0), 56);
    }

    private static void withholdingsTake() {
        Bounds.sentence("Then, if the run is not one of correct(), withholdings take from x, but not so that it falls below the protected "
                + "amount. At last x is paid out.");
        // net, claim, protected, and then the rest of 20 and the payout that are due
        long[][] cases = {{0, 0, 0, 20, 0}, {1, 0, 0, 19, 0}, {19, 0, 0, 1, 0}, {20, 0, 0, 0, 0}, {21, 0, 0, 0, 1}, {10, 0, 10, 20, 10},
            {11, 0, 10, 19, 10}, {9, 0, 10, 20, 9}, {30, 0, 10, 0, 10}, {29, 0, 10, 1, 10}, {31, 0, 10, 0, 11}, {30, 5, 10, 5, 10},
            {15, 5, 10, 20, 10}, {16, 5, 10, 19, 10}, {-1, 0, 0, 20, 0}};
        for (long[] one : cases) {
            PayHouse x = payer(one[0], one[1], one[2], false);
            x.withhold(0, 0, 20, 20);
            x.run();
            String what = "of " + one[0] + ", " + one[1] + ", " + one[2];
            Bounds.same("the rest " + what, x.restOf(0), one[3]);
            Bounds.same("the payout " + what, x.payout(1, 0), one[4]);
            Bounds.same("the net " + what, x.net(1, 0), one[0]);
            long taken = 20 - one[3];
            Bounds.same("the bank " + what, x.balance(0), -one[1] - one[4] - taken);
        }
        PayHouse corrected = payer(10, 0, 0, true);
        corrected.withhold(0, 0, 20, 20);
        corrected.correct(0);
        Bounds.same("not in a run of correct()", corrected.restOf(0), 20);
        Bounds.same("all is paid out", corrected.payout(1, 0), 60);
        corrected.comeBack(1, 0);
        corrected.run();
        Bounds.same("in the next run", corrected.restOf(0), 0);
        Bounds.same("the payout", corrected.payout(2, 0), 50);
    }

    private static void takes(long net, long[][] withholdings, long[] rests, long payout) {
        PayHouse x = payer(net, 0, 0, false);
        x.person();
        x.withhold(1, 0, 5, 5);
        for (long[] one : withholdings) {
            x.withhold(0, (int) one[0], one[1], one[2]);
        }
        x.run();
        StringBuilder what = new StringBuilder("of ").append(net);
        for (int i = 0; i < rests.length; i++) {
            Bounds.same("the rest " + i + " " + what, x.restOf(i + 1), rests[i]);
        }
        Bounds.same("the payout " + what, x.payout(1, 0), payout);
        Bounds.same("another person's", x.restOf(0), 5);
        Bounds.same("errors", x.errors(), 0);
    }

    private static void shares() {
        Bounds.sentence("A withholding has a person, a priority, a rest, and a most that it takes in a run. It wants the smaller one of its "
                + "rest and its most. Withholdings of a person take by their priorities, the smallest number first. What is there is what "
                + "is left of x above the protected amount. Those with the same priority get what they want if that is there together; "
                + "otherwise each gets its want times what is there, divided by what they want together, rounded down, and the cents that "
                + "are left go to those that got less than they want, one to each in the order of their numbers. What they get is paid to "
                + "their creditors at once, and their rests become smaller.");
        takes(100, new long[][] {{0, 10, 9}}, new long[] {1}, 91);
        takes(100, new long[][] {{0, 10, 10}}, new long[] {0}, 90);
        takes(100, new long[][] {{0, 10, 11}}, new long[] {0}, 90);
        takes(10, new long[][] {{9, 8, 8}, {0, 7, 7}}, new long[] {5, 0}, 0);
        takes(10, new long[][] {{1, 8, 8}, {1, 7, 7}, {0, 9, 9}}, new long[] {7, 7, 0}, 0);
        takes(10, new long[][] {{0, 10, 10}, {1, 1, 1}}, new long[] {0, 1}, 0);
        takes(11, new long[][] {{0, 10, 10}, {1, 1, 1}}, new long[] {0, 0}, 0);
        takes(10, new long[][] {{4, 6, 6}, {4, 4, 4}}, new long[] {0, 0}, 0);
        takes(9, new long[][] {{4, 6, 6}, {4, 4, 4}}, new long[] {0, 1}, 0);
        takes(8, new long[][] {{4, 6, 6}, {4, 4, 4}}, new long[] {1, 1}, 0);
        takes(1, new long[][] {{4, 6, 6}, {4, 4, 4}}, new long[] {5, 4}, 0);
        takes(2, new long[][] {{4, 1, 1}, {4, 1, 1}, {4, 1, 1}}, new long[] {0, 0, 1}, 0);
        takes(5, new long[][] {{4, 2, 2}, {4, 2, 2}, {4, 2, 2}}, new long[] {0, 0, 1}, 0);
        takes(4, new long[][] {{4, 2, 2}, {4, 2, 2}, {4, 2, 2}}, new long[] {0, 1, 1}, 0);
        takes(100, new long[][] {{4, 1000, 50}, {4, 90, 1000}}, new long[] {964, 26}, 0);
        takes(7, new long[][] {{4, 1, 1}, {3, 2, 2}, {4, 8, 8}}, new long[] {0, 0, 4}, 0);
        PayHouse done = payer(6, 0, 0, false);
        done.withhold(0, 0, 6, 6);
        done.run();
        done.withhold(0, 0, 4, 4);
        done.withhold(0, 0, 4, 4);
        done.withhold(0, 0, 4, 4);
        done.tell(0, n("h"), 0, 2, 2, 7);
        done.run();
        // 7 there of 12 wanted: 2 for each, and a cent for the first one that wants.
        Bounds.same("nothing is wanted", done.restOf(0), 0);
        Bounds.same("3 of 4", done.restOf(1), 1);
        Bounds.same("2 of 4", done.restOf(2), 2);
        Bounds.same("2 of 4", done.restOf(3), 2);
        Bounds.same("paid to creditors", done.balance(0), -13);
        PayHouse all = Bounds.ruled("pay a=999999999*8;");
        for (int i = 0; i < 8; i++) {
            all.withhold(0, 0, GREAT, GREAT);
        }
        all.run();
        for (int i = 0; i < 8; i++) {
            Bounds.same("great amounts", all.restOf(i), 1);
        }
        PayHouse most = Bounds.ruled("pay a=1000*8000*1000;");
        for (int i = 0; i < 8; i++) {
            most.withhold(0, 0, GREAT, GREAT);
        }
        most.run();
        Bounds.same("all that is wanted", most.restOf(7), 0);
        Bounds.same("nothing is left", most.payout(0, 0), 0);
    }

    /** Small payments of all kinds, against the words of section 5 written down once more. */
    private static void allSmallPayments() {
        int[][] wants = {{0, 1}, {0, 2}, {1, 1}, {1, 2}, {2, 3}};
        for (int first = 0; first < wants.length; first++) {
            for (int second = 0; second < wants.length; second++) {
                for (int third = 0; third < wants.length; third++) {
                    int[][] chosen = {wants[first], wants[second], wants[third]};
                    for (int net = -1; net < 9; net++) {
                        smallPayment(net, (first + second) % 3, (second + third) % 3, chosen);
                    }
                }
            }
        }
    }

    private static void smallPayment(int net, int claim, int protect, int[][] chosen) {
        PayHouse x = payer(net, claim, protect, false);
        for (int[] one : chosen) {
            x.withhold(0, one[0], one[1], one[1]);
        }
        x.run();
        long left = net;
        long claimed = claim;
        long[] rests = {chosen[0][1], chosen[1][1], chosen[2][1]};
        if (left < 0) {
            claimed -= left;
            left = 0;
        } else {
            long back = left - protect > 0 ? Math.min(claimed, left - protect) : 0;
            claimed -= back;
            left -= back;
            for (int priority = 0; priority < 3; priority++) {
                long there = Math.max(0, left - protect);
                long together = 0;
                for (int i = 0; i < 3; i++) {
                    together += chosen[i][0] == priority ? rests[i] : 0;
                }
                long cents = there;
                long[] gets = new long[3];
                for (int i = 0; i < 3 && together > 0; i++) {
                    if (chosen[i][0] == priority) {
                        gets[i] = together <= there ? rests[i] : rests[i] * there / together;
                        cents -= gets[i];
                    }
                }
                for (int i = 0; i < 3; i++) {
                    if (chosen[i][0] == priority && together > there && cents > 0 && gets[i] < rests[i]) {
                        gets[i]++;
                        cents--;
                    }
                    rests[i] -= gets[i];
                    left -= gets[i];
                }
            }
        }
        String what = "of the net " + net + ", the claim " + claim + ", protected " + protect;
        Bounds.same("the claim " + what, x.claim(0), claimed);
        Bounds.same("the payout " + what, x.payout(1, 0), left);
        for (int i = 0; i < 3; i++) {
            Bounds.same("the rest " + i + " " + what, x.restOf(i), rests[i]);
        }
    }

    private static void advancesAndReturns() {
        Bounds.sentence("An advance is paid out to a person at once, and the claim becomes greater by it. A payout that comes back adds to "
                + "the waiting amount of the person.");
        PayHouse x = Bounds.ruled("pay a=10;");
        x.person();
        Bounds.same("advance", x.advance(0, 3), 3);
        Bounds.same("bank", x.balance(0), -3);
        Bounds.same("the other person's claim", x.claim(1), 0);
        x.run();
        Bounds.same("it is taken", x.payout(0, 0), 7);
        Bounds.same("comeBack", x.comeBack(0, 0), 7);
        Bounds.same("comeBack of the other one", x.comeBack(0, 1), 10);
        Bounds.same("bank", x.balance(0), -3);
        x.run();
        Bounds.same("paid again", x.payout(1, 0), 17);
        Bounds.same("paid again", x.payout(1, 1), 20);
        Bounds.same("it can come back", x.comeBack(1, 0), 17);
        x.run();
        Bounds.same("comeBack", x.comeBack(2, 1), 10);
        Bounds.same("two wait", x.comeBack(1, 1), 30);
        Bounds.refused(Bounds.STATE, "came back already", Bounds::standing, y -> y.comeBack(0, 1));
        Bounds.refusedBy(x, Bounds.STATE, "came back already", y -> y.comeBack(1, 1));
        PayHouse none = Bounds.ruled("pay a=0;");
        none.run();
        Bounds.refusedBy(none, Bounds.STATE, "a payout of 0", y -> y.comeBack(0, 0));
        none.person();
        Bounds.refusedBy(none, Bounds.STATE, "who came behind the run", y -> y.comeBack(0, 1));
    }

    // ---- authorities and the journal

    private static void owing() {
        Bounds.sentence("What is owed to an authority becomes greater by the differences of all hold and cost entries for it, and smaller "
                + "by what is remitted.");
        PayHouse x = Bounds.ruled("hold 0 a=1;cost 0 b=2;hold 1 c=4;cost 2 d=8;hold 3 e=16;cost 3 f=fact h;pay g=99;");
        x.person();
        x.tell(0, n("h"), 0, 0, 0, 32);
        x.run();
        long[] due = {6, 8, 16, 64};
        for (int authority = 0; authority < 4; authority++) {
            Bounds.same("owed " + authority, x.owed(authority), due[authority]);
        }
        Bounds.same("remit", x.remit(3, 63), 1);
        Bounds.same("the others stay", x.owed(2), 16);
        Bounds.refusedBy(x, Bounds.STATE, "1 more than is owed", y -> y.remit(3, 2));
        Bounds.same("remit all", x.remit(3, 1), 0);
        Bounds.refused(Bounds.STATE, "nothing is owed", Bounds::standing, y -> y.remit(3, 1));
        x.withdraw(0, n("h"), 0, 0, 0);
        x.correct(0);
        Bounds.same("below 0", x.owed(3), -32);
        Bounds.refusedBy(x, Bounds.STATE, "below 0", y -> y.remit(3, 1));
        x.run();
        Bounds.same("the next month", x.owed(3), 0);
    }

    private static void filings() {
        Bounds.sentence("A filing of an authority has, for each month, the sum of the settled amounts of all persons for the hold and cost "
                + "lines of this authority and this month, less what its earlier filings have for this month.");
        PayHouse x = Bounds.ruled("hold 2 a=month+1;cost 2 b=10;hold 1 c=100;pay d=1000;cost 3 e=50;");
        x.person();
        Bounds.same("nothing is settled", x.file(2), 1);
        Bounds.same("nothing is settled", x.filed(2, 0, 0), 0);
        for (int i = 0; i < 60; i++) {
            x.run();
        }
        Bounds.same("the second one", x.file(2), 2);
        Bounds.same("the third one", x.file(2), 3);
        for (int month = 0; month < 60; month++) {
            Bounds.same("the month " + month, x.filed(2, 1, month), 2 * (month + 11));
            Bounds.same("nothing new in " + month, x.filed(2, 2, month), 0);
        }
        Bounds.loaded(x, 0, "hold 2 a=1;");
        x.setReach(1);
        x.correct(1);
        x.file(2);
        Bounds.same("less", x.filed(2, 3, 59), 1 - 60 - 10);
        Bounds.same("not settled anew", x.filed(2, 3, 58), 0);
        Bounds.same("another authority's first", x.file(1), 1);
        Bounds.same("another authority's first", x.filed(1, 0, 58), 200);
        Bounds.same("another authority's first", x.filed(1, 0, 59), 100);
        Bounds.refusedBy(x, Bounds.ELEMENT, "its second", y -> y.filed(1, 1, 0));
        Bounds.same("errors", x.errors(), 0);
        manyFilings();
        for (int i = 5; i <= 20; i++) {
            Bounds.same("file", x.file(2), i);
        }
        Bounds.refusedBy(x, Bounds.STATE, "the 21st", y -> y.file(2));
        Bounds.same("the 20th is there", x.filed(2, 19, 59), 0);
        Bounds.refusedBy(x, Bounds.ELEMENT, "the 21st", y -> y.filed(2, 20, 0));
        Bounds.same("errors", x.errors(), 0);
    }

    /** All filings that there can be, each with an amount of its own. */
    private static void manyFilings() {
        PayHouse x = Bounds.ruled("hold 0 a=fact h;cost 1 b=fact h*2;hold 2 c=fact h*3;cost 3 d=fact h*4;");
        x.run();
        x.setReach(0);
        x.run();
        x.setReach(1);
        for (int i = 0; i < 20; i++) {
            x.tell(0, n("h"), 0, 1, 1, (i + 1) * (i + 1));
            x.correct(0);
            for (int authority = 0; authority < 4; authority++) {
                Bounds.same("file", x.file((authority + i) % 4), i + 1);
            }
        }
        for (int authority = 0; authority < 4; authority++) {
            int same = authority;
            for (int i = 0; i < 20; i++) {
                Bounds.same("filing " + i + " of " + same, x.filed(same, i, 1), (2 * i + 1) * (same + 1));
                Bounds.same("another month", x.filed(same, i, 0) + x.filed(same, i, 2), 0);
            }
            Bounds.refusedBy(x, Bounds.STATE, "the 21st", y -> y.file(same));
            Bounds.refusedBy(x, Bounds.ELEMENT, "the 21st", y -> y.filed(same, 20, 1));
        }
        Bounds.same("errors", x.errors(), 0);
    }

    private static void journal() {
        Bounds.sentence("The journal has five accounts: 0 the bank, 1 wages, 2 authorities, 3 claims, 4 waiting amounts. The bank becomes "
                + "smaller by payouts, advances, what creditors are paid, and remittances, and greater by payouts that come back.");
        Bounds.sentence("Wages become greater by pay and cost entries. Authorities are the negative sum of what is owed to them, claims the "
                + "sum of all claims, waiting amounts the negative sum of these.");
        PayHouse x = Bounds.ruled("pay a=100;hold 1 b=20;cost 2 c=7;");
        x.person();
        balances(x, "at first", 0, 0, 0, 0, 0);
        x.advance(1, 30);
        balances(x, "an advance", -30, 0, 0, 30, 0);
        x.withhold(0, 0, 9, 9);
        x.run();
        balances(x, "a run", -30 - 9 - 71 - 50, 214, -54, 0, 0);
        x.comeBack(0, 1);
        balances(x, "a payout that comes back", -110, 214, -54, 0, -50);
        x.remit(1, 40);
        balances(x, "a remittance", -150, 214, -14, 0, -50);
        Bounds.loaded(x, 0, "hold 1 b=20;");
        x.correct(0);
        balances(x, "a claim", -150, 214 - 107, -7, 100, -50);
        x.file(1);
        x.setProtected(0, 5);
        balances(x, "nothing of money", -150, 107, -7, 100, -50);
        journalOfEachKind();
        int[] wrong = {-1, 5, Bounds.LEAST, Bounds.MOST};
        for (int account : wrong) {
            Bounds.refused(Bounds.ARGUMENT, "balance(" + account + ")", Bounds::standing, y -> y.balance(account));
        }
    }

    private static void journalOfEachKind() {
        String[] rules = {"pay a=8;", "hold 0 a=8;", "hold 1 a=8;", "hold 2 a=8;", "hold 3 a=8;", "cost 0 a=8;", "cost 1 a=8;",
            "cost 2 a=8;", "cost 3 a=8;"};
        for (int kind = 0; kind < 9; kind++) {
            PayHouse x = Bounds.ruled(rules[kind]);
            x.run();
            boolean pay = kind == 0;
            boolean hold = kind > 0 && kind < 5;
            balances(x, rules[kind], pay ? -8 : 0, hold ? 0 : 8, pay ? 0 : -8, hold ? 8 : 0, 0);
            for (int authority = 0; authority < 4; authority++) {
                boolean owed = kind == 1 + authority || kind == 5 + authority;
                Bounds.same("owed to " + authority + " by " + rules[kind], x.owed(authority), owed ? 8 : 0);
                x.file(authority);
                Bounds.same("filed for " + authority + " by " + rules[kind], x.filed(authority, 0, 0), owed ? 8 : 0);
            }
        }
    }

    private static void balances(PayHouse x, String what, long... due) {
        long sum = 0;
        for (int account = 0; account < 5; account++) {
            Bounds.same("account " + account + " after " + what, x.balance(account), due[account]);
            sum += x.balance(account);
        }
        Bounds.same("all balances after " + what, sum, 0);
        Bounds.same("errors after " + what, x.errors(), 0);
    }
}
