import java.util.Random;

/** The boundaries that section 2 of the document names: faults, what can be open, values, versions, writing out. */
public final class BoundsOfRules {
    private static final String TEN_14 = "(100000000*1000000)";
    private static final long LIMIT = Bounds.LIMIT;

    public static void main(String[] args) {
        words();
        numbersAndDigits();
        lines();
        rowsAndNumbersTooLong();
        authorities();
        definitions();
        openOnes();
        nestedAtRandom();
        kindsInOrder();
        kindTwo();
        kindThree();
        greatestAndSmallest();
        monthsFactsAndNames();
        lastAndYear();
        parts();
        bands();
        testsAndChoices();
        versionsInForce();
        explanations();
        writtenOut();
        oneTextBehindAnother();
        Bounds.finish(args);
    }

    private static long n(String name) {
        return Bounds.n(name);
    }

    private static void fault(String rules, int kind, int place) {
        PayHouse x = new PayHouse();
        Bounds.same("load of " + rules, Bounds.loaded(x, 0, rules), -3 - place);
        Bounds.same("the kind of " + rules, x.faultKind(), kind);
        Bounds.same("the moment after " + rules, x.moment(), 0);
        Bounds.refusedBy(x, Bounds.INDEX, "definitions(0) after " + rules, y -> y.definitions(0));
    }

    private static PayHouse fine(String rules) {
        PayHouse x = Bounds.ruled(rules);
        Bounds.same("the kind of " + rules, x.faultKind(), 0);
        Bounds.same("the moment after " + rules, x.moment(), 1);
        return x;
    }

    private static void gives(String value, long due) {
        Bounds.same(value, Bounds.ruled("a=" + value + ";").value(0, n("a"), 0, 1), due);
    }

    // ---- words, numbers, lines

    private static void words() {
        Bounds.sentence("The words are pay, hold, cost, if, then, else, or, and, not, fact, last, year, month, min, max, "
                + "part and bands.");
        for (String word : Bounds.WORDS) {
            fault("a=1;b=fact " + word + ";", 1, 11);
            fault("a=1;b=last " + word + ";", 1, 11);
            fault("a=1;cost 1 " + word + "=1;", 1, 11);
            fine(word + "x=1;");
            String shorter = word.substring(0, word.length() - 1);
            fine("a=fact " + shorter + ";" + shorter + "=last " + shorter + ";");
        }
        fine("none=fact none;true=1;");
    }

    private static void numbersAndDigits() {
        Bounds.sentence("A number has 1 to 9 digits. A digit is a number with a value from 0 to 3 (also 02): the authority.");
        gives("7", 7);
        gives("999999999", 999999999);
        gives("000000000", 0);
        gives("000000012", 12);
        fault("a=1000000000;", 1, 2);
        fault("a=0000000000;", 1, 2);
        fault("a=bands(1,0000000000);", 1, 10);
        fault("a=bands(1,0000000001:1,1);", 1, 10);
        fault("a=bands(1,1:0000000001,1);", 1, 12);
        String[] digits = {"0", "1", "2", "3", "00", "01", "02", "03", "000000003", "000000000"};
        for (String digit : digits) {
            PayHouse x = fine("hold " + digit + " a=1;cost " + digit + " b=1;");
            int authority = Integer.parseInt(digit);
            Bounds.same("hold " + digit, x.lineKind(0, n("a")), 1 + authority);
            Bounds.same("cost " + digit, x.lineKind(0, n("b")), 5 + authority);
        }
        fault("hold 0000000003 a=1;", 1, 5);
    }

    private static void lines() {
        Bounds.sentence("Each part of the text that is a name, an equals sign and a value is a definition. A definition "
                + "with pay, hold or cost is a line:");
        PayHouse x = fine("");
        Bounds.same("no definition", x.definitions(0), 0);
        x.run();
        Bounds.same("no line", x.entries(0, 0), 0);
        PayHouse y = fine("a=1;pay b=2;hold 0 c=3;cost 3 d=4;");
        Bounds.same("definitions", y.definitions(0), 4);
        y.run();
        Bounds.same("a definition alone is no line", y.entries(0, 0), 3);
        Bounds.same("the first line", y.entryAt(0, 0, 0, 1), n("b"));
    }

    // ---- faults of kind 1

    private static void rowsAndNumbersTooLong() {
        Bounds.sentence("(a byte that begins no token, a row of more than 8 letters, a number of more than 9 digits, an "
                + "authority above 3, the name of the 17th definition, and an opening ( or [, an if, a not or a minus of a "
                + "unit when 10 of these are open cannot stand;");
        fine("abcdefgh=1;b=abcdefgh;c=last abcdefgh;d=fact zzzzzzzz;");
        fault("abcdefghi=1;", 1, 0);
        fault("a=abcdefghi;", 1, 2);
        fault("a=last abcdefghi;", 1, 7);
        fault("a=fact abcdefghi;", 1, 7);
        fault("a=elseelsee;", 1, 2);
        fault("a=" + "z".repeat(698), 1, 2);
        fault("a=" + "0".repeat(698), 1, 2);
        for (int sign = 1; sign < 256; sign++) {
            boolean letter = sign >= 'a' && sign <= 'z';
            boolean digit = sign >= '0' && sign <= '9';
            String rules = "a=" + (char) sign + ";";
            if (digit) {
                fine(rules);
            } else if (letter) {
                fault(rules, sign == 'a' ? 3 : 2, sign == 'a' ? 0 : 2);
            } else {
                boolean goesOn = sign == '(' || sign == '-' || sign == ' ';
                fault(rules, 1, sign == '=' ? 1 : goesOn ? 3 : 2);
            }
        }
    }

    private static void authorities() {
        fault("hold 4 a=1;", 1, 5);
        fault("cost 4 a=1;", 1, 5);
        fault("hold 04 a=1;", 1, 5);
        fault("cost 10 a=1;", 1, 5);
        fault("hold 999999999 a=1;", 1, 5);
        fault("hold a=1;", 1, 5);
        fault("hold -1 a=1;", 1, 5);
        fault("pay 1 a=1;", 1, 4);
    }

    private static String definitions(int count) {
        StringBuilder all = new StringBuilder();
        for (int i = 0; i < count; i++) {
            all.append((char) ('a' + i)).append('=').append(i).append(';');
        }
        return all.toString();
    }

    private static void definitions() {
        String sixteen = definitions(16);
        PayHouse x = fine(sixteen);
        Bounds.same("definitions", x.definitions(0), 16);
        Bounds.same("the last one", x.definedName(0, 15), n("p"));
        Bounds.same("its value", x.value(0, n("p"), 0, 1), 15);
        int length = sixteen.length();
        fault(sixteen + "q=1;", 1, length);
        fault(sixteen + "q", 1, length);
        fault(sixteen + " pay  q=1;", 1, length + 6);
        fault(sixteen + "hold 3q=1;", 1, length + 6);
        fault(sixteen + "cost 3 a=1;", 1, length + 7);
        fault(sixteen + "hold 4 a=1;", 1, length + 5);
        fault(sixteen + "pay", 1, length + 3);
        fault(sixteen + "pay;", 1, length + 3);
        fault(sixteen + "?", 1, length);
        fine(definitions(15) + "pay pp=a+o;");
        fine(sixteen + "   ");
    }

    private static void openOnes() {
        String[] opening = {"(", "min(", "max(", "part(", "bands(", "-", "if ", "if [", "if not "};
        String[] closing = {")", ",1)", ",1)", ",1,1)", ",1)", "", "<1 then 1 else 2", "<1]then 1 else 2",
            "<1 then 1 else 2"};
        int[] openers = {1, 1, 1, 1, 1, 1, 1, 2, 2};
        int[] offsets = {0, 3, 3, 4, 5, 0, 0, 0, 0};
        for (int i = 0; i < opening.length; i++) {
            for (int j = 0; j < opening.length; j++) {
                // No if belongs to a minus; and what an earlier test opens must not be the deepest.
                if (i == 5 && j > 5 || i > 6 && j == 6) {
                    continue;
                }
                // Ten open ones, brackets first; an if's test is over where the second one stands.
                int ahead = 10 - openers[j] - (i > 5 && j > 5 ? 1 : openers[i]);
                String front = "a=" + "(".repeat(ahead) + opening[i] + (i > 5 && j > 5 ? "1" + closing[i].replace("2", "") : "");
                String end = (i > 5 && j > 5 ? "" : closing[i]) + ")".repeat(ahead) + ";";
                fine(front + opening[j] + "1" + closing[j] + end);
                String deeper = "a=(" + front.substring(2);
                int place = deeper.length() + (openers[j] == 2 ? 3 : offsets[j]);
                fault(deeper + opening[j] + "1" + closing[j] + ")" + end, 1, place);
            }
        }
        openAndClosed();
    }

    private static void openAndClosed() {
        Bounds.sentence("( and [ are open up to their closing ones, an if up to the end of its value, a not and a minus up "
                + "to the end of what they belong to).");
        String nine = "(".repeat(9);
        String shut = ")".repeat(9);
        fine("a=" + nine + "(1)+(1)*(1)-(1)" + shut + ";");
        fine("a=" + nine + "min(1,2)+max(1,2)+part(1,2,3)+bands(1,2)+(1)" + shut + ";");
        fault("a=" + nine + "min((1),2)" + shut + ";", 1, 15);
        fault("a=" + nine + "min(1,(2))" + shut + ";", 1, 17);
        fault("a=" + nine + "part(1,2,(2))" + shut + ";", 1, 20);
        fault("a=" + nine + "bands((1),2)" + shut + ";", 1, 17);
        fine("a=" + nine + "-1--1*-1" + shut + ";");
        fault("a=" + nine + "--1" + shut + ";", 1, 12);
        fault("a=" + nine + "-(1)" + shut + ";", 1, 12);
        fine("a=" + nine + "-1+(1)" + shut + ";");
        String test = "(".repeat(8) + "if ";
        String rest = " then 1 else 2" + ")".repeat(8) + ";";
        fine("a=" + test + "not 1<2 and not 1<2 or not 1<2" + rest);
        fine("a=" + test + "[1<2]and[1<2 or 1<2]or[1<2]" + rest);
        fine("a=" + test + "not 1<2 and [1<2]" + rest);
        fine("a=" + test + "(1)<(2)" + rest);
        fine("a=" + test + "-1<-2 and -1==-2" + rest);
        fault("a=" + test + "not not 1<2" + rest, 1, 17);
        fault("a=" + test + "not [1<2]" + rest, 1, 17);
        fault("a=" + test + "not (1)<2" + rest, 1, 17);
        fault("a=" + test + "not -1<2" + rest, 1, 17);
        fault("a=" + test + "[not 1<2]" + rest, 1, 14);
        fault("a=" + test + "[[1<2]]" + rest, 1, 14);
        fault("a=" + test + "not 1<(2)" + rest, 1, 19);
        fault("a=" + test + "[(1)<2]" + rest, 1, 14);
        fine("a=" + "(".repeat(8) + "if 1<2 then (1) else (2)" + ")".repeat(8) + ";");
        fault("a=" + nine + "if 1<2 then (1) else 2" + shut + ";", 1, 23);
        fault("a=" + nine + "if 1<2 then 1 else (2)" + shut + ";", 1, 30);
        fault("a=" + nine + "if (1)<2 then 1 else 2" + shut + ";", 1, 14);
        fault("a=" + nine + "if 1<2 then 1 else if 1<2 then 1 else 2" + shut + ";", 1, 30);
        fine("a=" + nine + "if 1<2 then 1 else 2" + shut + "+" + nine + "if 1<2 then 1 else 2" + shut + ";");
        fine("a=" + "if 1<2 then 1 else ".repeat(10) + "2;b=" + "if 1<2 then 1 else ".repeat(10) + "2;");
        fault("a=" + "if 1<2 then 1 else ".repeat(11) + "2;", 1, 192);
        fine("a=if " + "not ".repeat(9) + "1<2 then 1 else 2;b=" + "-".repeat(10) + "1;");
        fault("a=if " + "not ".repeat(10) + "1<2 then 1 else 2;", 1, 41);
        fault("b=" + "-".repeat(11) + "1;", 1, 12);
    }

    /** Chains of openings at random: ten can stand, and of eleven the last one cannot. */
    private static void nestedAtRandom() {
        for (int seed = 0; seed < 400; seed++) {
            Random random = new Random(seed);
            StringBuilder front = new StringBuilder("a=");
            StringBuilder end = new StringBuilder(";");
            int place = 0;
            // 0: a value can stand here, 1: a unit, 2: a part of a test.
            int where = 0;
            String ten = "";
            for (int i = 0; i < 11; i++) {
                int pick = random.nextInt(where == 2 ? 9 : where == 1 ? 6 : 7);
                place = front.length();
                boolean inTest = where == 2;
                if (pick >= 7) {
                    front.append(pick == 7 ? "[" : "not ");
                    end.insert(0, pick == 7 ? "]" : "");
                } else if (pick == 6) {
                    if (inTest) {
                        pick = 0;
                    } else {
                        front.append("if ");
                        end.insert(0, " then 1 else 2");
                        where = 2;
                    }
                }
                if (pick < 6) {
                    String[] opening = {"(", "min(1,", "max(", "part(1,", "bands(", "-"};
                    String[] closing = {")", ")", ",1)", ",1)", ",1)", ""};
                    place += pick == 0 || pick == 5 ? 0 : opening[pick].indexOf('(');
                    front.append(opening[pick]);
                    end.insert(0, closing[pick] + (inTest ? "<1" : ""));
                    where = pick == 5 ? 1 : 0;
                }
                if (i == 9) {
                    ten = front + (where == 2 ? "1<2" : "1") + end;
                }
            }
            fine(ten);
            fault(front + (where == 2 ? "1<2" : "1") + end, 1, place);
        }
    }

    // ---- faults of the kinds 2 and 3

    private static void kindsInOrder() {
        Bounds.sentence("Faults, the first kind that applies:");
        fault("a=b;a=a;a", 1, 9);
        fault("a=b;a=a;", 2, 2);
        fault("a=a;b=c;", 2, 6);
        fault("a=a;b=1;b=2;", 2, 8);
        fault("a=a;b=bands(1,10001);", 2, 14);
        fault("a=a;b=bands(1,2:3,2:3,1);", 2, 18);
        fault("a=a;b=1;", 3, 0);
        fault("a=b;" + definitions(16), 1, 4 + 10 * 4 + 5 * 5);
        fault("a=bands(1,10001);b=?;", 1, 19);
        fault("a=1;a=2", 1, 7);
        fault("b=b;a=" + "(".repeat(11), 1, 16);
    }

    private static void kindTwo() {
        Bounds.sentence("Kind 2, the first of these by its place: a name that is defined already (where it is defined again); "
                + "a name that is not defined in the text at all (behind last and year as well; a fact can have any name); "
                + "in bands a limit that is not greater than the one ahead of it, or a rate above 10000 (at the number).");
        String[] faults = {"a=2;", "b%=zz;", "c%=last zz;", "d%=year zz;", "e%=bands(1,5:1,5:1,1);", "f%=bands(1,5:10001,1);",
            "g%=bands(1,10001);", "h%=bands(1,5:1,4:1,1);"};
        int[] offsets = {0, 3, 8, 8, 15, 13, 11, 15};
        for (int i = 0; i < faults.length; i++) {
            String one = faults[i].replace('%', 'x');
            fault("a=1;" + one, 2, 4 + offsets[i]);
            for (int j = 0; j < faults.length; j++) {
                String other = faults[j].replace('%', 'y');
                fault("a=1;" + one + "m=1;" + other, 2, 4 + offsets[i]);
            }
        }
        fault("pay a=1;  hold 1  a=2;", 2, 18);
        fault("a=1;a=2;a=3;", 2, 4);
        fault("a=b;b=c;c=1;b=1;", 2, 12);
        fine("a=c;b=last c+year c;c=1;");
        fine("a=fact a+fact b+fact zzzzzzzz;");
        fault("a=bands(zz,10001);", 2, 8);
        fault("a=bands(bands(1,10001),20000);", 2, 16);
        fault("a=bands(1,6:1,5:1,4:1,1);", 2, 14);
        fine("a=bands(1,0:1,1);b=bands(1,4:1,5:1,1);c=bands(1,999999999:1,1);");
        fault("a=bands(1,0:1,0:1,1);", 2, 14);
        fault("a=bands(1,00:1,000:1,1);", 2, 15);
        fine("a=bands(1,5:1,6:1,1)+bands(1,5:1,6:1,1);");
        fine("a=bands(bands(1,9:1,1),5:1,1);");
        fine("a=bands(1,5:10000,6:10000,10000);b=bands(1,10000);c=bands(1,5:0,0);");
        fault("a=bands(1,5:10000,6:10001,10000);", 2, 20);
        fault("a=bands(1,5:1,999999999);", 2, 14);
        fault("a=bands(1,5:20000,4:1,1);", 2, 12);
        fine("a=bands(1,20000:1,1);");
    }

    private static void kindThree() {
        Bounds.sentence("Kind 3: a name whose value hangs on itself in the same month, directly or by other names (last and "
                + "year do not count, all else does, whether it would be used or not): at the place where the first such "
                + "name is defined.");
        fault("a=a;", 3, 0);
        fault("  a=a;", 3, 2);
        fault("a=1;bb=bb;", 3, 4);
        fault("a=b;b=a;", 3, 0);
        fault("z=a;y=1;a=b;b=c;c=a;", 3, 8);
        fault("a=1;b=c;c=d;d=e;e=e;", 3, 16);
        fault("e=e;d=d;", 3, 0);
        fault("a=b;b=b;", 3, 4);
        fine("a=last a;b=year b;c=fact c;d=last d+year d+fact d;");
        fine("a=last b+year b;b=a;");
        fine("a=b;b=c;c=d;d=last a;");
        String[] uses = {"if a<1 then 1 else 2", "if 1<a then 1 else 2", "if 1<2 then 1 else a", "if 2<1 then a else 1",
            "if 1<2 or a<1 then 1 else 2", "if 2<1 and a<1 then 1 else 2", "if not [a==1] then 1 else 2", "0*a", "part(a,1,0)",
            "part(1,a,0)", "part(1,1,a)", "bands(a,1)", "min(a,1)", "max(1,a)", "-a", "(a)", "1-a", "1+2*a"};
        for (String use : uses) {
            fault("a=" + use + ";", 3, 0);
            fault("z=1;b=" + use + ";a=b;", 3, 4);
            fine("a=" + use.replace("a<", "last a<").replace("a)", "last a)").replace("(a,", "(last a,")
                    .replace(",a", ",last a").replace("<a", "<last a").replace("se a", "se last a").replace("then a", "then last a")
                    .replace("*a", "*last a").replace("-a", "-last a").replace("a==", "last a==") + ";");
        }
        StringBuilder chain = new StringBuilder();
        for (int i = 0; i < 15; i++) {
            chain.append((char) ('a' + i)).append('=').append((char) ('b' + i)).append(';');
        }
        fine(chain + "p=last a;");
        fault(chain + "p=a;", 3, 0);
        fault(chain + "p=o;", 3, 56);
        fault(chain + "p=p;", 3, 60);
    }

    // ---- values

    private static void greatestAndSmallest() {
        Bounds.sentence("Values are whole numbers from -10^14 to 10^14. Where an operation would give a greater or smaller one, "
                + "it gives the greatest or smallest one (also each single addition and multiplication).");
        gives(TEN_14, LIMIT);
        gives("-" + TEN_14, -LIMIT);
        gives(TEN_14 + "-1", LIMIT - 1);
        gives(TEN_14 + "-1+1", LIMIT);
        gives(TEN_14 + "+1", LIMIT);
        gives(TEN_14 + "+1-1", LIMIT - 1);
        gives(TEN_14 + "-1+2", LIMIT);
        gives(TEN_14 + "+" + TEN_14, LIMIT);
        gives(TEN_14 + "+" + TEN_14 + "-" + TEN_14, 0);
        gives(TEN_14 + "--1", LIMIT);
        gives("-" + TEN_14 + "+1", 1 - LIMIT);
        gives("-" + TEN_14 + "+1-1", -LIMIT);
        gives("-" + TEN_14 + "-1", -LIMIT);
        gives("-" + TEN_14 + "-1+1", 1 - LIMIT);
        gives("-" + TEN_14 + "-" + TEN_14, -LIMIT);
        gives("-" + TEN_14 + "-" + TEN_14 + "+" + TEN_14, 0);
        gives("--" + TEN_14, LIMIT);
        gives("10000000*10000000", LIMIT);
        gives("9999999*10000001", LIMIT - 1);
        gives("10000000*10000001", LIMIT);
        gives("-10000000*10000000", -LIMIT);
        gives("-9999999*10000001", 1 - LIMIT);
        gives("-10000000*10000001", -LIMIT);
        gives("10000000*-10000001", -LIMIT);
        gives("-10000000*-10000001", LIMIT);
        gives(TEN_14 + "*" + TEN_14, LIMIT);
        gives("-" + TEN_14 + "*" + TEN_14, -LIMIT);
        gives(TEN_14 + "*-" + TEN_14, -LIMIT);
        gives("-" + TEN_14 + "*-" + TEN_14, LIMIT);
        gives("-1*5", -5);
        gives("5*-1", -5);
        gives("-1*-1", 1);
        gives("1*-1", -1);
        gives("-1*0", 0);
        gives(TEN_14 + "*1", LIMIT);
        gives(TEN_14 + "*-1", -LIMIT);
        gives(TEN_14 + "*0", 0);
        gives("0*-" + TEN_14, 0);
        gives(TEN_14 + "*2*-1", -LIMIT);
        gives(TEN_14 + "*2*0", 0);
        // Products that are 0 or small when a long wraps.
        gives("(65536*65536)*(65536*65536)", LIMIT);
        gives("(65536*65536)*(65536*32768)", LIMIT);
        gives("-(65536*65536)*(65536*65536)", -LIMIT);
        gives("(4294967*1000)*(4294967*1000)+1", LIMIT);
        gives("min(" + TEN_14 + "+1,1)", 1);
        gives("max(-" + TEN_14 + "-1,1)", 1);
        gives("min(2,3)", 2);
        gives("min(3,2)", 2);
        gives("min(-2,-2)", -2);
        gives("max(2,3)", 3);
        gives("max(3,2)", 3);
        gives("max(-3,-2)", -2);
        gives("max(-" + TEN_14 + "-1,-" + TEN_14 + ")", -LIMIT);
        gives("if " + TEN_14 + "+1==" + TEN_14 + " then 1 else 2", 1);
        gives("if " + TEN_14 + "-1<" + TEN_14 + "+7 then 1 else 2", 1);
        PayHouse sums = Bounds.ruled("a=if month==0 then " + TEN_14 + " else if month==1 then 5 else -7;b=year a;"
                + "c=if month==0 then -" + TEN_14 + " else if month==1 then -5 else 7;d=year c;");
        long[] due = {0, LIMIT, LIMIT, LIMIT - 7, LIMIT - 14};
        for (int month = 0; month < due.length; month++) {
            Bounds.same("the sum of the year", sums.value(0, n("b"), month, 1), due[month]);
            Bounds.same("the sum below 0", sums.value(0, n("d"), month, 1), -due[month]);
        }
    }

    private static void monthsFactsAndNames() {
        Bounds.sentence("month is the number of the month for which the value is worked out. fact is section 3's value of the "
                + "fact for that month, 0 if there is none. A name has the value of its definition for the same month;");
        PayHouse x = Bounds.ruled("a=month;b=fact h;c=a+b;d=last c;e=last a+0*fact h;");
        x.tell(0, n("h"), 0, 3, 4, 70);
        for (int month = 0; month < 60; month++) {
            int fact = month == 3 || month == 4 ? 70 : 0;
            Bounds.same("month", x.value(0, n("a"), month, 2), month);
            Bounds.same("fact", x.value(0, n("b"), month, 2), fact);
            Bounds.same("names", x.value(0, n("c"), month, 2), month + fact);
            Bounds.same("the month ahead's month", x.value(0, n("e"), month, 2), Math.max(0, month - 1));
        }
        x.tell(0, n("h"), 1, 3, 3, 0);
        Bounds.same("a fact of 0", x.value(0, n("b"), 3, 3), 0);
        x.tell(0, n("h"), 2, 0, 0, 1000000000);
        x.tell(0, n("h"), 2, 59, 59, -1000000000);
        Bounds.same("the greatest fact", x.value(0, n("b"), 0, 5), 1000000000);
        Bounds.same("the smallest fact", x.value(0, n("b"), 59, 5), -1000000000);
    }

    private static void lastAndYear() {
        Bounds.sentence("last has its value for the month before, and year the sum of its values for the months of the same "
                + "year that are ahead of the month (added in ascending order). For those months the version is taken that is "
                + "in force then. A name that is not defined in the version that is in force in a month has the value 0 there, "
                + "and so has last in the month 0.");
        PayHouse x = Bounds.ruled("a=month+100;b=last a;c=year a;d=last d+1;e=year e+1;");
        Bounds.same("last in the month 0", x.value(0, n("b"), 0, 1), 0);
        Bounds.same("last in the month 1", x.value(0, n("b"), 1, 1), 100);
        PayHouse zero = Bounds.ruled("a=5;b=7-last a;c=7*last a;d=7-year a;e=part(7,1,last a);f=max(-7,last a);g=bands(7,10000)-last a;");
        String[] names = {"b", "c", "d", "e", "f", "g"};
        long[] first = {7, 0, 7, 0, 0, 7};
        long[] second = {2, 35, 2, 1, 5, 2};
        for (int i = 0; i < names.length; i++) {
            Bounds.same(names[i] + " in the month 0", zero.value(0, n(names[i]), 0, 1), first[i]);
            Bounds.same(names[i] + " in the month 1", zero.value(0, n(names[i]), 1, 1), second[i]);
        }
        Bounds.same("last in the month 12", x.value(0, n("b"), 12, 1), 111);
        Bounds.same("last in the month 59", x.value(0, n("b"), 59, 1), 158);
        for (int year = 0; year < 60; year += 12) {
            Bounds.same("the first month of a year", x.value(0, n("c"), year, 1), 0);
            Bounds.same("the second month of a year", x.value(0, n("c"), year + 1, 1), 100 + year);
            Bounds.same("the last month of a year", x.value(0, n("c"), year + 11, 1), 11 * (100 + year) + 55);
            Bounds.same("a year over itself", x.value(0, n("e"), year + 11, 1), 2048);
        }
        Bounds.same("last over itself", x.value(0, n("d"), 59, 1), 60);
        PayHouse y = Bounds.ruled("a=1;b=last a+10;c=year a;z=9;");
        Bounds.loaded(y, 5, "b=last b+20;a=2;c=year a+year z;z=8;");
        Bounds.loaded(y, 7, "b=last b+30;c=year b;");
        Bounds.loaded(y, 8, "a=3;b=last a;c=year a;");
        Bounds.same("the version of the month ahead", y.value(0, n("b"), 5, 4), 11 + 20);
        Bounds.same("its last one", y.value(0, n("b"), 6, 4), 51);
        Bounds.same("two versions ahead", y.value(0, n("b"), 7, 4), 81);
        Bounds.same("a name that was not defined then", y.value(0, n("b"), 8, 4), 0);
        Bounds.same("a name that is no more", y.value(0, n("a"), 7, 4), 0);
        Bounds.same("the months of the year ahead", y.value(0, n("c"), 5, 4), 5 + 45);
        Bounds.same("with the version's own month", y.value(0, n("c"), 6, 4), 7 + 45 + 8);
        Bounds.same("without the month 7", y.value(0, n("c"), 9, 4), 5 + 4 + 3);
        PayHouse late = Bounds.people(1);
        Bounds.loaded(late, 3, "a=last a+year a+1;");
        Bounds.same("no version", late.value(0, n("a"), 2, 1), 0);
        Bounds.same("no version in the month ahead", late.value(0, n("a"), 3, 1), 1);
        Bounds.same("then", late.value(0, n("a"), 4, 1), 3);
        Bounds.same("not defined at all", late.value(0, n("b"), 4, 1), 0);
    }

    private static void parts() {
        Bounds.sentence("part(a, b, c) is a * b (as by the operation) divided by c, rounded to the nearest whole number, halves up "
                + "(towards the greater number); it is 0 if c is 0 or smaller.");
        gives("part(7,1,1)", 7);
        gives("part(-7,1,1)", -7);
        gives("part(1,1,2)", 1);
        gives("part(-1,1,2)", 0);
        gives("part(3,1,2)", 2);
        gives("part(-3,1,2)", -1);
        gives("part(1,1,3)", 0);
        gives("part(2,1,3)", 1);
        gives("part(-1,1,3)", 0);
        gives("part(-2,1,3)", -1);
        gives("part(49,1,100)", 0);
        gives("part(50,1,100)", 1);
        gives("part(51,1,100)", 1);
        gives("part(-49,1,100)", 0);
        gives("part(-50,1,100)", 0);
        gives("part(-51,1,100)", -1);
        gives("part(150,1,100)", 2);
        gives("part(-150,1,100)", -1);
        gives("part(7,-3,2)", -10);
        gives("part(-7,-3,2)", 11);
        gives("part(5,5,0)", 0);
        gives("part(5,5,-1)", 0);
        gives("part(5,5,-5)", 0);
        gives("part(0,5,5)", 0);
        gives("part(5,0,5)", 0);
        gives("part(" + TEN_14 + ",2,2)", LIMIT / 2);
        gives("part(" + TEN_14 + ",-2,2)", -LIMIT / 2);
        gives("part(" + TEN_14 + ",2,1)", LIMIT);
        gives("part(" + TEN_14 + ",1," + TEN_14 + ")", 1);
        gives("part(" + TEN_14 + "-1,1," + TEN_14 + ")", 1);
        gives("part(" + TEN_14 + ",1," + TEN_14 + "*2)", 1);
        gives("part(500000*100000000,1," + TEN_14 + ")", 1);
        gives("part(500000*100000000-1,1," + TEN_14 + ")", 0);
        gives("part(-500000*100000000,1," + TEN_14 + ")", 0);
        gives("part(-500000*100000000-1,1," + TEN_14 + ")", -1);
        gives("part(" + TEN_14 + "," + TEN_14 + "," + TEN_14 + ")", 1);
    }

    private static void bands() {
        Bounds.sentence("bands(x, l1: r1, l2: r2, r) is 0 if x is not above 0; otherwise the sum of r1 for each cent up to l1, r2 for "
                + "each further one up to l2 and so on, and r for each one above the last limit, divided by 10000 and rounded down.");
        gives("bands(-1,10000)", 0);
        gives("bands(-" + TEN_14 + ",5:10000,10000)", 0);
        gives("bands(0,10000)", 0);
        gives("bands(1,10000)", 1);
        gives("bands(1,9999)", 0);
        gives("bands(2,5000)", 1);
        gives("bands(2,4999)", 0);
        gives("bands(10000,1)", 1);
        gives("bands(9999,1)", 0);
        gives("bands(10001,1)", 1);
        gives("bands(19999,1)", 1);
        gives("bands(20000,1)", 2);
        gives("bands(5,0)", 0);
        // Up to 10 a whole, then a half up to 20, then a fifth.
        String all = ",10:10000,20:5000,2000)";
        gives("bands(1" + all, 1);
        gives("bands(9" + all, 9);
        gives("bands(10" + all, 10);
        gives("bands(11" + all, 10);
        gives("bands(12" + all, 11);
        gives("bands(19" + all, 14);
        gives("bands(20" + all, 15);
        gives("bands(21" + all, 15);
        gives("bands(24" + all, 15);
        gives("bands(25" + all, 16);
        gives("bands(1,0:10000,0)", 0);
        gives("bands(1,0:0,10000)", 1);
        gives("bands(1,1:10000,0)", 1);
        gives("bands(2,1:10000,0)", 1);
        gives("bands(3,1:3333,2:3333,3334)", 1);
        gives("bands(3,1:3333,2:3333,3333)", 0);
        gives("bands(" + TEN_14 + ",10000)", LIMIT);
        gives("bands(" + TEN_14 + ",9999)", LIMIT / 10000 * 9999);
        gives("bands(" + TEN_14 + ",999999999:10000,0)", 999999999);
        gives("bands(" + TEN_14 + ",999999999:0,10000)", LIMIT - 999999999);
        gives("bands(" + TEN_14 + "-1,1)", LIMIT / 10000 - 1);
        gives("-bands(3,5000)", -1);
    }

    private static void testsAndChoices() {
        Bounds.sentence("Of if only the test and the part that is chosen are worked out; or and and work out their parts from the left "
                + "only as far as needed. All other parts are worked out, from the left to the right.");
        String yes = "fact y<1";
        String no = "fact n<0";
        asks("if 1<2 then fact a else fact b", "a");
        asks("if 2<1 then fact a else fact b", "b");
        asks("if " + yes + " then 1 else 2", "y");
        asks("if " + yes + " or fact a<1 then 1 else 2", "y");
        asks("if " + no + " or fact a<1 then 1 else 2", "an");
        asks("if " + no + " or " + yes + " or fact a<1 then 1 else 2", "ny");
        asks("if " + no + " or fact a<0 or fact b<1 then 1 else 2", "abn");
        asks("if " + yes + " and fact a<1 then 1 else 2", "ay");
        asks("if " + no + " and fact a<1 then 1 else 2", "n");
        asks("if " + yes + " and " + no + " and fact a<1 then 1 else 2", "ny");
        asks("if " + no + " and fact a<1 or " + yes + " then 1 else 2", "ny");
        asks("if " + yes + " or fact a<1 and fact b<1 then 1 else 2", "y");
        asks("if [" + yes + " or fact a<1] and fact b<1 then 1 else 2", "by");
        asks("if not [" + yes + " or fact a<1] and fact b<1 then 1 else 2", "y");
        asks("if not " + yes + " or fact a<1 then 1 else 2", "ay");
        asks("if not " + no + " or fact a<1 then 1 else 2", "n");
        asks("if fact a<fact b then 1 else 2", "ab");
        asks("0*fact a+fact b*0", "ab");
        asks("min(fact a,fact b)+max(1,fact c)", "abc");
        asks("part(fact a,fact b,fact c)", "abc");
        asks("part(0,fact a,0)", "a");
        asks("bands(fact a,1)", "a");
        asks("-fact a-(fact b)", "ab");
        asks("(if 1<2 then fact a else fact b)+fact c", "ac");
        gives("if 1<2 and 2<1 or 1<2 then 1 else 2", 1);
        gives("if 1<2 or 1<2 and 2<1 then 1 else 2", 1);
        gives("if [1<2 or 1<2] and 2<1 then 1 else 2", 2);
        gives("if not 1<2 or 1<2 then 1 else 2", 1);
        gives("if not [1<2 or 1<2] then 1 else 2", 2);
        String[] comparisons = {"1<2", "2<2", "3<2", "1<=2", "2<=2", "3<=2", "1==2", "2==2", "3==2", "-1<1", "1<-1"};
        boolean[] so = {true, false, false, true, true, false, false, true, false, true, false};
        for (int i = 0; i < comparisons.length; i++) {
            String one = comparisons[i];
            gives("if " + one + " then 3 else 4", so[i] ? 3 : 4);
            gives("if not " + one + " then 3 else 4", so[i] ? 4 : 3);
            gives("if not not " + one + " then 3 else 4", so[i] ? 3 : 4);
            gives("if not [" + one + "] then 3 else 4", so[i] ? 4 : 3);
            gives("if " + one + " or 2<1 then 3 else 4", so[i] ? 3 : 4);
            gives("if 2<1 or " + one + " then 3 else 4", so[i] ? 3 : 4);
            gives("if not [2<1 or " + one + "] then 3 else 4", so[i] ? 4 : 3);
            gives("if " + one + " and 1<2 then 3 else 4", so[i] ? 3 : 4);
            gives("if 1<2 and " + one + " then 3 else 4", so[i] ? 3 : 4);
            gives("if not [1<2 and " + one + "] then 3 else 4", so[i] ? 4 : 3);
        }
        gives("if 1<2 then 3 else 4", 3);
        gives("if 2<2 then 3 else 4", 4);
        gives("if 2<=2 then 3 else 4", 3);
        gives("if 3<=2 then 3 else 4", 4);
        gives("if 2==2 then 3 else 4", 3);
        gives("if -2==2 then 3 else 4", 4);
        gives("if -3<-2 then 3 else 4", 3);
        Bounds.same("a definition that is not asked", Bounds.ruled("a=if 1<2 then 1 else b;b=fact h;").explained(0, n("a"), 0), 0);
    }

    /** The facts, each of one letter, that the value asks in the month 7. */
    private static void asks(String value, String due) {
        PayHouse x = Bounds.ruled("v=" + value + ";");
        StringBuilder got = new StringBuilder();
        int count = x.explained(0, n("v"), 7);
        for (int i = 0; i < count; i++) {
            got.append((char) x.explainedName(0, n("v"), 7, i));
            Bounds.same("the month", x.explainedMonth(0, n("v"), 7, i), 7);
        }
        Bounds.sameText(value, got.toString(), due);
        Bounds.refusedBy(x, Bounds.ELEMENT, "one more fact", y -> y.explainedName(0, n("v"), 7, count));
        Bounds.refusedBy(x, Bounds.ELEMENT, "one more fact", y -> y.explainedMonth(0, n("v"), 7, count));
    }

    // ---- versions, explanations, writing out

    private static void versionsInForce() {
        Bounds.sentence("A version is in force from the month for which it was loaded on. As of a moment, the version in force in a month "
                + "is, of those known, the one with the greatest such month that is not behind it, of several the one that was "
                + "loaded latest; there is none if no such version is known (then all names have the value 0).");
        PayHouse x = Bounds.people(1);
        int[] months = {30, 0, 59, 30, 29, 0};
        int[][] due = {{-1, -1, -1, -1, -1}, {-1, -1, 0, 0, 0}, {1, 1, 0, 0, 0}, {1, 1, 0, 0, 2}, {1, 1, 3, 3, 2},
            {1, 4, 3, 3, 2}, {5, 4, 3, 3, 2}};
        int[] asked = {28, 29, 30, 58, 59};
        for (int i = 0; i < months.length; i++) {
            Bounds.same("load", Bounds.loaded(x, months[i], "a=" + (i + 1) + ";"), i);
        }
        for (int moment = 0; moment < due.length; moment++) {
            for (int i = 0; i < asked.length; i++) {
                Bounds.same("in " + asked[i] + " as of " + moment, x.versionInForce(asked[i], moment), due[moment][i]);
                Bounds.same("the value", x.value(0, n("a"), asked[i], moment), due[moment][i] + 1);
            }
        }
        Bounds.same("the month 0", x.versionInForce(0, 6), 5);
        Bounds.same("the month 0", x.versionInForce(0, 1), -1);
    }

    private static void explanations() {
        Bounds.sentence("The explanation of a value lists the facts that were asked when it was worked out: pairs of a month and a name, "
                + "each once, ordered by the month and then by the name.");
        PayHouse x = Bounds.ruled("a=fact h+fact h+b+last b+year b;b=fact h+fact g;c=year c+fact zz+fact aa;d=1;");
        Bounds.same("in the month 0", x.explained(0, n("a"), 0), 2);
        Bounds.same("in the month 1", x.explained(0, n("a"), 1), 4);
        Bounds.same("in the month 12", x.explained(0, n("a"), 12), 4);
        Bounds.same("in the month 13", x.explained(0, n("a"), 13), 4);
        Bounds.same("in the month 14", x.explained(0, n("a"), 14), 6);
        Bounds.same("in the month 59", x.explained(0, n("a"), 59), 24);
        int[] months = {11, 11, 12, 12};
        String[] names = {"g", "h", "g", "h"};
        for (int i = 0; i < 4; i++) {
            Bounds.same("the month of " + i, x.explainedMonth(0, n("a"), 12, i), months[i]);
            Bounds.same("the name of " + i, x.explainedName(0, n("a"), 12, i), n(names[i]));
        }
        for (int i = 0; i < 24; i++) {
            Bounds.same("the month of " + i, x.explainedMonth(0, n("c"), 23, i), 12 + i / 2);
            Bounds.same("the name of " + i, x.explainedName(0, n("c"), 23, i), n(i % 2 == 0 ? "aa" : "zz"));
        }
        Bounds.same("no fact", x.explained(0, n("d"), 59), 0);
        Bounds.same("no definition", x.explained(0, n("zz"), 59), 0);
        int[] wrong = {24, -1, Bounds.LEAST, Bounds.MOST};
        for (int index : wrong) {
            Bounds.refused(Bounds.ELEMENT, "the month of " + index, Bounds::standing, y -> y.explainedMonth(0, n("d"), 1, index));
            Bounds.refusedBy(x, Bounds.ELEMENT, "the month of " + index, y -> y.explainedMonth(0, n("c"), 23, index));
            Bounds.refusedBy(x, Bounds.ELEMENT, "the name of " + index, y -> y.explainedName(0, n("c"), 23, index));
        }
        Bounds.loaded(x, 13, "a=last a+fact i;");
        Bounds.same("over versions", x.explained(0, n("a"), 13), 5);
        Bounds.same("the last one", x.explainedName(0, n("a"), 13, 4), n("i"));
        Bounds.same("its month", x.explainedMonth(0, n("a"), 13, 4), 13);
    }

    private static void writes(String rules, String due) {
        PayHouse x = fine(rules);
        Bounds.sameText("written out", Bounds.written(x, 0), due);
        Bounds.same("read again", Bounds.loaded(x, 0, due), due.length() <= 700 ? 1 : 99);
        Bounds.sameText("written out again", Bounds.written(x, 1), due);
    }

    private static void writtenOut() {
        Bounds.sentence("To write out a version: its definitions in their order, each as: pay and a blank, hold and the digit and a blank "
                + "(hold 2 is written hold 2 with one blank between), or cost likewise, if it is a line; then the name, the equals sign, "
                + "the value, a semicolon, without any blanks but one blank between two tokens that both consist of letters or digits. "
                + "Numbers are written without zeros at their front. Round and square brackets are written just as they were in the text.");
        writes("", "");
        writes("   ", "");
        writes("a=1;", "a=1;");
        writes(" b = 2 ; a = b ; ", "b=2;a=b;");
        writes("pay   a=1;", "pay a=1;");
        writes("hold2a=1;hold 3 b=1;hold00c=1;", "hold 2 a=1;hold 3 b=1;hold 0 c=1;");
        writes("cost02a=1;cost   000000001b=1;", "cost 2 a=1;cost 1 b=1;");
        writes("a=0;b=00;c=000000000;d=000000001;e=010;f=999999999;g=100000000;",
                "a=0;b=0;c=0;d=1;e=10;f=999999999;g=100000000;");
        writes("a=if 1<2then 3else 4;", "a=if 1<2 then 3 else 4;");
        writes("a=if[1<2]then(3)else(4);", "a=if[1<2]then(3)else(4);");
        writes("a=if not[not 1<=2]or 1==2and 3<4then-1else-2;", "a=if not[not 1<=2]or 1==2 and 3<4 then-1 else-2;");
        writes("a=((1))+(2);", "a=((1))+(2);");
        writes("a=if [[1<2]] then 1 else 2;", "a=if[[1<2]]then 1 else 2;");
        writes("a=fact b*last a-year a+month;", "a=fact b*last a-year a+month;");
        writes("a=min( 1 , 2 )+max(01,02)+part(1,2,03)+bands(1, 05 : 06 , 07);",
                "a=min(1,2)+max(1,2)+part(1,2,3)+bands(1,5:6,7);");
        writes("a=- - 1 - - 2;", "a=--1--2;");
        StringBuilder tight = new StringBuilder("a=");
        StringBuilder due = new StringBuilder("a=");
        for (int i = 0; i < 9; i++) {
            tight.append("if 1<2and 1<2or 1<2and 1<2or 1<2and 1<2or 1<2and 1<2or 1<2then 3else ");
            due.append("if 1<2 and 1<2 or 1<2 and 1<2 or 1<2 and 1<2 or 1<2 and 1<2 or 1<2 then 3 else ");
        }
        Bounds.sameText("more than 700 bytes", Bounds.writtenByParts(() -> fine(tight + "4;")), due + "4;");
        Bounds.truth("more than 700 bytes", due.length() > 700);
        Bounds.same("errors", fine(tight + "4;").errors(), 0);
    }

    /** What one text left must not be there for the next one, however many there were. */
    private static void oneTextBehindAnother() {
        Bounds.sentence("Loads the text as a version of the rules.");
        PayHouse opened = Bounds.people(1);
        String[] faults = {"a=" + "(".repeat(10), "a=" + "-".repeat(11), "a=if not [1<2", "a=if 1<2 then ", "a=min(1,max(1,",
            "a=bands(zz,10001);a=1;", "a=a;", "a=1;b=1;c=1;d=1;e=1;f=1;g=1;h=1;i=1;j=1;k=1;l=1;m=1;n=1;o=1;p=1;q=1;"};
        for (int i = 0; i < faults.length; i++) {
            Bounds.truth("a fault", Bounds.loaded(opened, 0, faults[i]) < 0);
            String rules = "b=" + "(".repeat(10) + "fact h" + ")".repeat(10) + ";a=b+b;";
            Bounds.same("a text behind " + faults[i], Bounds.loaded(opened, i, rules), i);
            Bounds.same("definitions", opened.definitions(i), 2);
            Bounds.same("the first one", opened.definedName(i, 0), n("b"));
        }
        Bounds.same("errors", opened.errors(), 0);
        factsBehindOthers();
        stepsBehindOthers();
    }

    private static String seventyFive(char letter) {
        StringBuilder facts = new StringBuilder();
        for (int i = 0; i < 75; i++) {
            facts.append("+fact ").append(letter).append((char) ('a' + i % 26)).append((char) ('p' + i / 26));
        }
        return facts.toString();
    }

    private static void factsBehindOthers() {
        PayHouse x = Bounds.people(1);
        Bounds.same("a fault", Bounds.loaded(x, 0, "a=zz" + seventyFive('x') + ";"), -5);
        Bounds.same("a fault", Bounds.loaded(x, 0, "a=zz" + seventyFive('y') + ";"), -5);
        Bounds.same("load", Bounds.loaded(x, 0, "a=1" + seventyFive('z') + ";"), 0);
        Bounds.same("load", Bounds.loaded(x, 1, "b=1;a=last a" + seventyFive('w') + ";"), 1);
        x.tell(0, n("zax"), 0, 0, 0, 1);
        Bounds.same("a", x.value(0, n("a"), 0, x.moment()), 1);
        x.tell(0, n("zap"), 0, 0, 0, 2);
        x.tell(0, n("wwr"), 0, 1, 1, 3);
        Bounds.same("a", x.value(0, n("a"), 0, x.moment()), 3);
        Bounds.same("a of the next version", x.value(0, n("a"), 1, x.moment()), 6);
        Bounds.same("its own facts", x.explained(0, n("a"), 0), 75);
        Bounds.same("the facts of both", x.explained(0, n("a"), 1), 150);
        Bounds.same("the first one", x.explainedName(0, n("a"), 1, 0), n("zap"));
        Bounds.same("the last one of the month 0", x.explainedName(0, n("a"), 1, 74), n("zzq"));
        Bounds.same("the first one of the month 1", x.explainedName(0, n("a"), 1, 75), n("wap"));
        Bounds.same("the last one", x.explainedName(0, n("a"), 1, 149), n("wzq"));
        Bounds.same("its month", x.explainedMonth(0, n("a"), 1, 149), 1);
    }

    private static void stepsBehindOthers() {
        PayHouse x = Bounds.people(1);
        String sum = "+1".repeat(300) + ";";
        for (int i = 0; i < 3; i++) {
            Bounds.same("a fault", Bounds.loaded(x, 0, "a=zz" + sum), -5);
        }
        Bounds.same("load", Bounds.loaded(x, 0, "b=fact h;a=" + "b+".repeat(300) + "b;"), 0);
        x.tell(0, n("h"), 0, 0, 59, 2);
        Bounds.same("the value", x.value(0, n("a"), 0, 2), 602);
        Bounds.same("load", Bounds.loaded(x, 1, "a=1" + sum), 1);
        Bounds.same("a value of the first version", x.value(0, n("a"), 0, 3), 602);
        Bounds.same("a value of the second version", x.value(0, n("a"), 1, 3), 301);
        Bounds.same("errors", x.errors(), 0);
    }
}
