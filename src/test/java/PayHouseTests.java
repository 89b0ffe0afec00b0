import java.util.NoSuchElementException;

/** For each promise of the document: ordinary inputs, the edges that it names, and wrong inputs. */
public final class PayHouseTests {
    private static final Class<?> INDEX = IndexOutOfBoundsException.class;
    private static final Class<?> ARGUMENT = IllegalArgumentException.class;
    private static final Class<?> STATE = IllegalStateException.class;
    private static final Class<?> ELEMENT = NoSuchElementException.class;
    private static final long LIMIT = 100000000000000L;

    private static int checks = 0;
    private static int wrong = 0;
    private static int promise = 0;

    private interface Call {
        double answer();
    }

    public static void main(String[] args) {
        Runnable[] promises = {
            PayHouseTests::newObject, PayHouseTests::type, PayHouseTests::outputByte,
            PayHouseTests::load, PayHouseTests::faultKind, PayHouseTests::versionInForce,
            PayHouseTests::definitions, PayHouseTests::definedName, PayHouseTests::lineKind,
            PayHouseTests::write, PayHouseTests::value, PayHouseTests::valueIf,
            PayHouseTests::explained, PayHouseTests::explainedMonth, PayHouseTests::explainedName,
            PayHouseTests::person, PayHouseTests::moment, PayHouseTests::tell,
            PayHouseTests::withdraw, PayHouseTests::takeBack, PayHouseTests::tellText,
            PayHouseTests::factAt, PayHouseTests::sourceAt, PayHouseTests::pieces,
            PayHouseTests::changes, PayHouseTests::firstChange, PayHouseTests::presentMonth,
            PayHouseTests::setReach, PayHouseTests::run, PayHouseTests::correct,
            PayHouseTests::entries, PayHouseTests::entryAt, PayHouseTests::net,
            PayHouseTests::lateNet, PayHouseTests::settled, PayHouseTests::again,
            PayHouseTests::setProtected, PayHouseTests::withhold, PayHouseTests::restOf,
            PayHouseTests::advance, PayHouseTests::claim, PayHouseTests::payout,
            PayHouseTests::comeBack, PayHouseTests::owed, PayHouseTests::file,
            PayHouseTests::filed, PayHouseTests::remit, PayHouseTests::balance,
            PayHouseTests::checksum, PayHouseTests::meanNet, PayHouseTests::lateShare,
            PayHouseTests::errors
        };
        for (Runnable test : promises) {
            promise++;
            try {
                test.run();
            } catch (RuntimeException e) {
                wrong++;
                System.out.println("promise " + promise + " was left by " + e);
                e.printStackTrace(System.out);
            }
        }
        System.out.println(promise + " promises, " + checks + " checks, " + wrong + " wrong");
        if (wrong != 0) {
            System.exit(1);
        }
    }

    // ---- what the tests use

    private static void is(String what, double got, double want) {
        checks++;
        if (got != want) {
            wrong++;
            System.out.println("promise " + promise + ": " + what + " answered " + got + ", due is " + want);
        }
    }

    private static void isLong(String what, long got, long want) {
        checks++;
        if (got != want) {
            wrong++;
            System.out.println("promise " + promise + ": " + what + " answered " + got + ", due is " + want);
        }
    }

    /** The call must throw just this exception, by a throw of the program, and change nothing. */
    private static void fails(PayHouse x, Class<?> due, String what, Call call) {
        checks++;
        long before = x.checksum();
        Class<?> got = null;
        String thrower = "";
        try {
            call.answer();
        } catch (RuntimeException e) {
            got = e.getClass();
            thrower = e.getStackTrace().length == 0 ? "" : e.getStackTrace()[0].getClassName();
        }
        if (got != due || !thrower.startsWith("PayHouse") || x.checksum() != before) {
            wrong++;
            System.out.println("promise " + promise + ": " + what + " threw " + got + ", due is " + due);
        }
    }

    private static long n(String name) {
        long number = 0;
        for (int i = 0; i < name.length(); i++) {
            number = number << 8 | name.charAt(i);
        }
        return number;
    }

    private static int typed(PayHouse x, String text) {
        int length = x.type(0);
        for (int i = 0; i < text.length(); i += 8) {
            length = x.type(n(text.substring(i, Math.min(text.length(), i + 8))));
        }
        return length;
    }

    private static int loaded(PayHouse x, int month, String text) {
        typed(x, text);
        return x.load(month);
    }

    private static int told(PayHouse x, String text) {
        typed(x, text);
        return x.tellText();
    }

    private static String output(PayHouse x) {
        StringBuilder all = new StringBuilder();
        for (int i = 0; x.outputByte(i) != PayHouse.NONE; i++) {
            all.append((char) x.outputByte(i));
        }
        return all.toString();
    }

    private static String written(PayHouse x, int version) {
        int length = x.write(version);
        String all = output(x);
        isLong("the length of " + all, length, all.length());
        return all;
    }

    private static void isText(String what, String got, String want) {
        checks++;
        if (!got.equals(want)) {
            wrong++;
            System.out.println("promise " + promise + ": " + what + " answered " + got + ", due is " + want);
        }
    }

    private static String times(String text, int count) {
        return text.repeat(count);
    }

    /** A house with one person and these rules from the month 0 on. */
    private static PayHouse house(String rules) {
        PayHouse x = new PayHouse();
        x.person();
        isLong("load of " + rules, loaded(x, 0, rules), 0);
        return x;
    }

    private static void fault(String rules, int kind, int place) {
        PayHouse x = new PayHouse();
        isLong("load of " + rules, loaded(x, 0, rules), -3 - place);
        isLong("the kind of " + rules, x.faultKind(), kind);
        isLong("the moment after " + rules, x.moment(), 0);
        isLong("the text after " + rules, x.type(0), 0);
    }

    private static void fine(String rules) {
        PayHouse x = new PayHouse();
        isLong("load of " + rules, loaded(x, 0, rules), 0);
        isLong("the kind of " + rules, x.faultKind(), 0);
        isLong("errors of " + rules, x.errors(), 0);
    }

    private static void is(PayHouse x, String name, int month, long want) {
        isLong(name + " in " + month, x.value(0, n(name), month, x.moment()), want);
    }

    private static void gives(String value, long want) {
        is(house("a=" + value + ";"), "a", 0, want);
    }

    // ---- the promises

    private static void newObject() {
        PayHouse x = new PayHouse();
        isLong("NONE", PayHouse.NONE, -1);
        isLong("moment", x.moment(), 0);
        isLong("presentMonth", x.presentMonth(), 0);
        isLong("type", x.type(0), 0);
        isLong("outputByte", x.outputByte(0), -1);
        isLong("faultKind", x.faultKind(), 0);
        isLong("versionInForce", x.versionInForce(59, 0), -1);
        isLong("checksum", x.checksum(), 0);
        isLong("errors", x.errors(), 0);
        is("lateShare", x.lateShare(), 0);
        isLong("balance", x.balance(0), 0);
        isLong("owed", x.owed(3), 0);
        isLong("reach", x.setReach(59), 59);
        fails(x, INDEX, "definitions(0)", () -> x.definitions(0));
        fails(x, INDEX, "claim(0)", () -> x.claim(0));
        fails(x, INDEX, "meanNet(0)", () -> x.meanNet(0));
        fails(x, INDEX, "restOf(0)", () -> x.restOf(0));
    }

    private static void type() {
        PayHouse x = new PayHouse();
        isLong("type(0)", x.type(0), 0);
        isLong("one byte", x.type('a'), 1);
        isLong("zeros between", x.type(0x3d00000000003700L), 3);
        isLong("the highest bit", x.type(0x8000000000000000L), 4);
        isLong("the fault is at the byte 128", x.load(0), -6);
        PayHouse order = house("");
        order.type(0x006200003d310000L);
        order.type(';');
        isLong("the highest byte is first", order.load(0), 1);
        isText("the highest byte is first", written(order, 1), "b=1;");
        PayHouse y = new PayHouse();
        typed(y, times(" ", 699));
        isLong("699 bytes", y.type(0), 699);
        fails(y, STATE, "2 bytes more", () -> y.type(0x2020));
        isLong("still 699", y.type(0), 699);
        isLong("700 bytes", y.type(' '), 700);
        fails(y, STATE, "1 byte more", () -> y.type(1L << 56));
        isLong("nothing more", y.type(0), 700);
        isLong("700 blanks are rules", y.load(0), 0);
        isLong("load empties", y.type(0), 0);
        y.type(-1);
        isLong("bytes 255", y.load(0), -3);
        y.type(0x20ff);
        isLong("the byte 255", y.tellText(), -4);
        isLong("tellText empties", y.type(0), 0);
    }

    private static void outputByte() {
        PayHouse x = house("ab=07;");
        isLong("before any output", x.outputByte(0), -1);
        loaded(x, 0, "c=1;");
        isLong("load writes nothing", x.outputByte(0), -1);
        x.write(0);
        isLong("first", x.outputByte(0), 'a');
        isLong("last", x.outputByte(4), ';');
        isLong("behind", x.outputByte(5), -1);
        isLong("ahead", x.outputByte(-1), -1);
        isLong("far", x.outputByte(Integer.MAX_VALUE), -1);
        isLong("far ahead", x.outputByte(Integer.MIN_VALUE), -1);
        x.write(1);
        isText("the latest one", output(x), "c=1;");
        x.errors();
        loaded(x, 0, "d=");
        isText("still the latest one", output(x), "c=1;");
    }

    private static void load() {
        PayHouse x = new PayHouse();
        for (int i = 0; i < 12; i++) {
            isLong("a fault", loaded(x, i, "a=;"), -5);
            isLong("load", loaded(x, i, "a=" + i + ";"), i);
            isLong("moment", x.moment(), i + 1);
        }
        x.type(n("b=;"));
        fails(x, STATE, "the 13th version", () -> x.load(0));
        fails(x, INDEX, "a month is first", () -> x.load(60));
        isLong("the text stays", x.type(0), 3);
        PayHouse y = new PayHouse();
        typed(y, "a=1;");
        fails(y, INDEX, "month -1", () -> y.load(-1));
        fails(y, INDEX, "month 60", () -> y.load(60));
        isLong("the text stays", y.type(0), 4);
        isLong("month 59", y.load(59), 0);
        isLong("an empty text", y.load(0), 1);
        loadKindOne();
        loadOpenOnes();
        loadKindTwoAndThree();
    }

    private static void loadKindOne() {
        fault("a", 1, 1);
        fault("a ", 1, 2);
        fault("a=1", 1, 3);
        fault("a=1;b", 1, 5);
        fault("=1;", 1, 0);
        fault("  1", 1, 2);
        fault("a=1;;", 1, 4);
        fault("a==1;", 1, 1);
        fault("a=1+;", 1, 4);
        fault("a=A;", 1, 2);
        fault("a=1\t;", 1, 3);
        fault("abcdefghi=1;", 1, 0);
        fine("abcdefgh=1;");
        fault("a=abcdefghi;", 1, 2);
        fault("a=1234567890;", 1, 2);
        fault("a=0000000001;", 1, 2);
        fine("a=123456789;b=000000001;");
        fault("pay=1;", 1, 3);
        fault("pay pay a=1;", 1, 4);
        fault("if=1;", 1, 0);
        fault("month=1;", 1, 0);
        fault("hold a=1;", 1, 5);
        fault("hold 4 a=1;", 1, 5);
        fault("cost 10 a=1;", 1, 5);
        fault("cost", 1, 4);
        fault("hold 1", 1, 6);
        fine("hold 3a=1;cost03b=1;hold 000000002 c=1;none=fact none;");
        fault("a=fact if;", 1, 7);
        fault("a=fact 1;", 1, 7);
        fault("a=last;", 1, 6);
        fault("a=year(b);", 1, 6);
        fault("a=1<2;", 1, 3);
        fault("a=if 1 then 2 else 3;", 1, 7);
        fault("a=if 1<2 then 2;", 1, 15);
        fault("a=if 1<2 then 2 else;", 1, 20);
        fault("a=1+if 1<2 then 2 else 3;", 1, 4);
        fault("a=if [1<2 then 1 else 2;", 1, 10);
        fault("a=if (1<2) then 1 else 2;", 1, 7);
        fault("a=if 1<=2==3 then 1 else 2;", 1, 9);
        fault("a=if 1<==2 then 1 else 2;", 1, 8);
        fault("a=if 1===2 then 1 else 2;", 1, 8);
        fault("a=if 1=2 then 1 else 2;", 1, 6);
        fault("a=[1];", 1, 2);
        fault("a=(1;", 1, 4);
        fault("a=min(1);", 1, 7);
        fault("a=min(1,2,3);", 1, 9);
        fault("a=min 1;", 1, 6);
        fault("a=part(1,2);", 1, 10);
        fault("a=bands(1);", 1, 9);
        fault("a=bands(1,2:3);", 1, 13);
        fault("a=bands(1,2:3,4:);", 1, 16);
        fault("a=bands(1,-2);", 1, 10);
        fault("a=bands(1,b);", 1, 10);
        fine("a=bands(1,2);");
        fault("a=not 1<2;", 1, 2);
        fault("a=1 2;", 1, 4);
        fault("a=1-;", 1, 4);
        fine("a=1--2;b=-(-3);");
        StringBuilder many = new StringBuilder();
        for (int i = 0; i < 16; i++) {
            many.append((char) ('a' + i)).append("=1;");
        }
        fine(many.toString());
        fault(many + "q=1;", 1, 64);
        fault(many + "pay q=1;", 1, 68);
        fault(many + "hold 2 a=1;", 1, 71);
        fault(many + "pay", 1, 67);
        fault(many + "hold 4", 1, 69);
    }

    private static void loadOpenOnes() {
        fine("a=" + times("(", 10) + "1" + times(")", 10) + ";");
        fault("a=" + times("(", 11) + "1" + times(")", 11) + ";", 1, 12);
        fine("a=" + times("-", 10) + "1;");
        fault("a=" + times("-", 11) + "1;", 1, 12);
        fine("a=if " + times("not ", 9) + "1<2 then 1 else 2;");
        fault("a=if " + times("not ", 10) + "1<2 then 1 else 2;", 1, 41);
        fine("a=if " + times("[", 9) + "1<2" + times("]", 9) + " then 1 else 2;");
        fault("a=if " + times("[", 10) + "1<2" + times("]", 10) + " then 1 else 2;", 1, 14);
        fine("a=" + times("if 1<2 then 3 else ", 10) + "4;");
        fault("a=" + times("if 1<2 then 3 else ", 11) + "4;", 1, 192);
        fault("a=" + times("if 1<2 then ", 11), 1, 122);
        fine("a=" + times("min(1,", 10) + "1" + times(")", 10) + ";");
        fault("a=" + times("max(1,", 11) + "1" + times(")", 11) + ";", 1, 65);
        fault("a=" + times("(", 10) + "-1", 1, 12);
        fault("a=" + times("(", 10) + "bands", 1, 17);
        fault("a=" + times("(", 10) + "part(", 1, 16);
        fine("a=if " + times("[1<2] and [[1<2]] or ", 20) + "1<2 then 1 else 2;");
        fine("a=" + times("min(1,max(1,part(1,2,bands(3,4))))+", 12) + "1;");
        fine("a=" + times("(if 1<2 then 1 else 2)+", 20) + "1;");
        fine("a=" + times("-1--1+", 20) + "1;");
        fine("a=(1)+(1)*(1)+" + times("(1)+", 20) + "-1;");
        fine("a=-1*-1*-1*-1*-1*-1*-1*-1*-1*-1*-1*-1-1;");
        fine("a=if not 1<2 or not 1<2 or not 1<2 or not 1<2 or not 1<2 or not 1<2 or not 1<2 or "
                + "not 1<2 or not 1<2 or not 1<2 or not 1<2 then 1 else 2;");
    }

    private static void loadKindTwoAndThree() {
        fault("a=1;a=2;", 2, 4);
        fault("a=1;pay a=2;", 2, 8);
        fault("a=b;", 2, 2);
        fault("a=last b;", 2, 7);
        fault("a=year b;", 2, 7);
        fine("a=fact b;");
        fault("a=c;b=1;b=2;", 2, 2);
        fault("b=1;b=2;a=c;", 2, 4);
        fault("a=b;a=1;", 2, 2);
        fault("a=b;a=;", 1, 6);
        fault("a=bands(1,5:2,5:3,1);", 2, 14);
        fault("a=bands(1,5:2,4:3,1);", 2, 14);
        fine("a=bands(1,5:2,6:3,1);b=bands(1,0:2,1:3,1);");
        fault("a=bands(1,5:2,4:3,5:1,1);", 2, 14);
        fault("a=bands(1,5:10001,4:3,1);", 2, 12);
        fault("a=bands(1,5:10000,6:10001,1);", 2, 20);
        fault("a=bands(1,10001);", 2, 10);
        fine("a=bands(1,10000);b=bands(1,000010000);");
        fault("a=bands(c,10001);", 2, 8);
        fault("a=a;b=c;", 2, 6);
        fault("a=a;", 3, 0);
        fault("pay a=a;", 3, 4);
        fault("a=b;b=a;", 3, 0);
        fault("c=a;a=b;b=a;", 3, 4);
        fault("c=a;b=1;a=d+1;d=e;e=if b<a then 1 else 2;", 3, 8);
        fault("a=1;b=if 1<2 then 1 else b;", 3, 4);
        fault("a=1;b=0*part(1,bands(min(b,1),1),1);", 3, 4);
        fine("a=last a+year a;b=last a+a;c=b+a;");
        fault("x=last a;a=last b+b;b=last a+c;c=a;", 3, 9);
    }

    private static void faultKind() {
        PayHouse x = new PayHouse();
        isLong("no load", x.faultKind(), 0);
        loaded(x, 0, "a");
        isLong("kind 1", x.faultKind(), 1);
        loaded(x, 0, "a=b;");
        isLong("kind 2", x.faultKind(), 2);
        told(x, "1");
        isLong("tellText is no load", x.faultKind(), 2);
        loaded(x, 0, "a=a;");
        isLong("kind 3", x.faultKind(), 3);
        fails(x, INDEX, "load(60)", () -> x.load(60));
        isLong("a load that throws is none", x.faultKind(), 3);
        loaded(x, 0, "a=1;");
        isLong("no fault", x.faultKind(), 0);
    }

    private static void versionInForce() {
        PayHouse x = new PayHouse();
        loaded(x, 5, "a=1;");
        loaded(x, 3, "a=2;");
        loaded(x, 5, "a=3;");
        isLong("none", x.versionInForce(2, 3), -1);
        isLong("from 3", x.versionInForce(3, 3), 1);
        isLong("from 4", x.versionInForce(4, 3), 1);
        isLong("the latest of two", x.versionInForce(5, 3), 2);
        isLong("the month is ahead of the loading", x.versionInForce(59, 2), 0);
        isLong("known from 1", x.versionInForce(5, 1), 0);
        isLong("known at 1", x.versionInForce(4, 1), -1);
        isLong("known at 0", x.versionInForce(59, 0), -1);
        fails(x, INDEX, "month 60", () -> x.versionInForce(60, 9));
        fails(x, INDEX, "month -1", () -> x.versionInForce(-1, 0));
        fails(x, ARGUMENT, "moment 4", () -> x.versionInForce(0, 4));
        fails(x, ARGUMENT, "moment -1", () -> x.versionInForce(0, -1));
    }

    private static void definitions() {
        PayHouse x = house("");
        loaded(x, 0, "a=1;pay b=2;");
        isLong("none", x.definitions(0), 0);
        isLong("two", x.definitions(1), 2);
        fails(x, INDEX, "version 2", () -> x.definitions(2));
        fails(x, INDEX, "version -1", () -> x.definitions(-1));
    }

    private static void definedName() {
        PayHouse x = house("zebra=1;hold 2 abcdefgh=2;");
        isLong("first", x.definedName(0, 0), n("zebra"));
        isLong("second", x.definedName(0, 1), n("abcdefgh"));
        fails(x, ELEMENT, "index 2", () -> x.definedName(0, 2));
        fails(x, ELEMENT, "index -1", () -> x.definedName(0, -1));
        fails(x, INDEX, "version 1", () -> x.definedName(1, 5));
    }

    private static void lineKind() {
        PayHouse x = house("a=1;pay b=1;hold 0 c=1;hold 3 d=1;cost 0 e=1;cost 03 f=1;");
        isLong("no line", x.lineKind(0, n("a")), 9);
        isLong("pay", x.lineKind(0, n("b")), 0);
        isLong("hold 0", x.lineKind(0, n("c")), 1);
        isLong("hold 3", x.lineKind(0, n("d")), 4);
        isLong("cost 0", x.lineKind(0, n("e")), 5);
        isLong("cost 3", x.lineKind(0, n("f")), 8);
        isLong("undefined", x.lineKind(0, n("g")), -1);
        isLong("none is a name", x.lineKind(0, n("none")), -1);
        fails(x, INDEX, "version 1", () -> x.lineKind(1, 0));
        String[] words = {"pay", "hold", "cost", "if", "then", "else", "or", "and", "not", "fact",
            "last", "year", "month", "min", "max", "part", "bands"};
        for (String word : words) {
            fails(x, ARGUMENT, word, () -> x.lineKind(0, n(word)));
        }
        long[] none = {0, -1, 'A', '`', '{', n("a1"), 0x610061L, 0x6100L, n("zzzzzzzz") | 1L << 63,
            Long.MIN_VALUE, Long.MAX_VALUE};
        for (long number : none) {
            fails(x, ARGUMENT, "the number " + number, () -> x.lineKind(0, number));
        }
        isLong("the last name", x.lineKind(0, n("zzzzzzzz")), -1);
    }

    private static void write() {
        PayHouse x = house(" pay  a = if  not [ 1 < 02 ] and 1<=2 or 3==4 then ( 1 ) else - fact b * 000 ; ");
        isText("all blanks go", written(x, 0),
                "pay a=if not[1<2]and 1<=2 or 3==4 then(1)else-fact b*0;");
        loaded(x, 0, "hold02c=bands(1,007:2,8)+last c-year c+month;cost 003 d=part(min(1,2),max(3,4),5);");
        isText("digits", written(x, 1),
                "hold 2 c=bands(1,7:2,8)+last c-year c+month;cost 3 d=part(min(1,2),max(3,4),5);");
        loaded(x, 0, "a=if 1<2then 3else 4;");
        isText("words and numbers", written(x, 2), "a=if 1<2 then 3 else 4;");
        loaded(x, 0, "");
        isLong("nothing", x.write(3), 0);
        isLong("no byte", x.outputByte(0), -1);
        fails(x, INDEX, "version 4", () -> x.write(4));
        fails(x, INDEX, "version -1", () -> x.write(-1));
        loaded(x, 0, "a=100000000+999999999+010;");
        isText("numbers", written(x, 4), "a=100000000+999999999+10;");
        writeMoreThanTheBuffer();
    }

    private static void writeMoreThanTheBuffer() {
        StringBuilder text = new StringBuilder("a=");
        StringBuilder due = new StringBuilder("a=");
        for (int i = 0; i < 9; i++) {
            text.append("if ").append(times("1<2or ", 9)).append("1<2then 3else ");
            due.append("if ").append(times("1<2 or ", 9)).append("1<2 then 3 else ");
        }
        due.append("4;");
        isLong("more than 700 bytes", due.length() > 700 ? 1 : 0, 1);
        // A house is asked but 512 times.
        for (int from = 0; from < due.length(); from += 250) {
            PayHouse x = new PayHouse();
            isLong("the text fits", typed(x, text + "4;"), text.length() + 2);
            isLong("load", x.load(0), 0);
            isLong("write", x.write(0), due.length());
            for (int i = from; i < due.length() && i < from + 250; i++) {
                isLong("the byte " + i, x.outputByte(i), due.charAt(i));
            }
            isLong("errors", x.errors(), 0);
        }
    }

    private static void value() {
        PayHouse x = house("a=fact h*2;b=last a+month;c=year a;d=last d+1;");
        x.tell(0, n("h"), 0, 0, 20, 5);
        is(x, "a", 0, 10);
        is(x, "a", 21, 0);
        is(x, "b", 0, 0);
        is(x, "b", 21, 31);
        is(x, "c", 0, 0);
        is(x, "c", 11, 110);
        is(x, "c", 12, 0);
        is(x, "c", 23, 90);
        is(x, "d", 0, 1);
        is(x, "d", 59, 60);
        is(x, "nothing", 5, 0);
        isLong("as of 1", x.value(0, n("a"), 3, 1), 0);
        isLong("as of 0", x.value(0, n("d"), 3, 0), 0);
        valueOfOperations();
        valueOverVersions();
        fails(x, INDEX, "person 1", () -> x.value(1, 0, 0, 9));
        fails(x, INDEX, "person -1", () -> x.value(-1, n("a"), 0, 0));
        fails(x, INDEX, "month 60", () -> x.value(0, 0, 60, 0));
        fails(x, INDEX, "month -1", () -> x.value(0, n("a"), -1, 0));
        fails(x, ARGUMENT, "no name", () -> x.value(0, n("min"), 0, 0));
        fails(x, ARGUMENT, "moment 3", () -> x.value(0, n("a"), 0, 3));
        fails(x, ARGUMENT, "moment -1", () -> x.value(0, n("a"), 0, -1));
        PayHouse deep = house("a=last p+1;b=a;c=b;d=c;e=d;f=e;g=f;h=g;i=h;j=i;k=j;l=k;m=l;n=m;o=n;p=o+last a;");
        is(deep, "p", 1, 3);
        // p(m) = p(m-1) + 1 + a(m-1), a(m) = p(m-1) + 1: the values double and reach the limit.
        is(deep, "p", 59, deepValue(59));
    }

    private static long deepValue(int month) {
        long a = 0;
        long p = 0;
        for (int m = 0; m <= month; m++) {
            long nextA = Math.min(LIMIT, p + 1);
            p = Math.min(LIMIT, nextA + a);
            a = nextA;
        }
        return p;
    }

    private static void valueOfOperations() {
        gives("1+2*3-4", 3);
        gives("(1+2)*3", 9);
        gives("10-3-2", 5);
        gives("--3", 3);
        gives("-2*-3", 6);
        gives("min(2,-3)", -3);
        gives("max(2,-3)", 2);
        gives("999999999*999999999", LIMIT);
        gives("-999999999*999999999", -LIMIT);
        gives("999999999*-999999999*0", 0);
        gives("100000000*1000000", LIMIT);
        gives("100000000*1000000+1", LIMIT);
        gives("100000000*1000000+1-1", LIMIT - 1);
        gives("100000000*1000000*(100000000*1000000)", LIMIT);
        gives("-100000000*1000000*(100000000*1000000)", -LIMIT);
        gives("-100000000*1000000-1+2", -LIMIT + 2);
        gives("99999999*1000000+999999", 99999999999999L);
        gives("10000001*9999999", 10000001L * 9999999);
        gives("10000000*10000001", LIMIT);
        gives("part(1,1,2)", 1);
        gives("part(-1,1,2)", 0);
        gives("part(-3,1,2)", -1);
        gives("part(5,1,3)", 2);
        gives("part(4,1,3)", 1);
        gives("part(-4,1,3)", -1);
        gives("part(-5,1,3)", -2);
        gives("part(7,3,1)", 21);
        gives("part(1,1,0)", 0);
        gives("part(1,1,-1)", 0);
        gives("part(999999999,999999999,100000000*1000000)", 1);
        gives("part(-999999999,999999999,1)", -LIMIT);
        gives("bands(0,10000)", 0);
        gives("bands(-5,10000)", 0);
        gives("bands(1,9999)", 0);
        gives("bands(3,10000)", 3);
        gives("bands(100,10:10000,20:5000,100)", 15);
        gives("bands(15,10:10000,20:5000,100)", 12);
        gives("bands(10,10:10000,20:5000,100)", 10);
        gives("bands(20,0:10000,20:5000,10000)", 10);
        gives("bands(30,0:10000,20:5000,10000)", 20);
        gives("bands(100000000*1000000,10000)", LIMIT);
        gives("bands(100000000*1000000,999999999:0,1)", (LIMIT - 999999999) / 10000);
        gives("if 1<2 then 3 else 4", 3);
        gives("if 2<2 then 3 else 4", 4);
        gives("if 2<=2 then 3 else 4", 3);
        gives("if 3<=2 then 3 else 4", 4);
        gives("if 2==2 then 3 else 4", 3);
        gives("if 2==3 then 3 else 4", 4);
        gives("if not 2==3 then 3 else 4", 3);
        gives("if not not 2==3 then 3 else 4", 4);
        gives("if 1<2 or 1<2 and 2<1 then 3 else 4", 3);
        gives("if [1<2 or 1<2] and 2<1 then 3 else 4", 4);
        gives("if not 1<2 and 2<1 then 3 else 4", 4);
        gives("if not [1<2 and 2<1] then 3 else 4", 3);
        gives("if 2<1 or 2<1 or 1<2 then 3 else 4", 3);
        gives("if 1<2 and 1<2 and 2<1 then 3 else 4", 4);
        gives("if 1<2 then if 2<1 then 5 else 6 else 7", 6);
        gives("if 2<1 then 5 else if 1<2 then 6 else 7", 6);
        gives("if 1+1<3*1 then (if 1<2 then 8 else 9)+1 else 7", 9);
        gives("month", 0);
    }

    private static void valueOverVersions() {
        PayHouse x = house("a=1;b=last a+100;c=year a;");
        loaded(x, 3, "c=year c;b=last b;a=10;");
        loaded(x, 5, "b=last b;");
        is(x, "b", 3, 101);
        is(x, "b", 4, 101);
        is(x, "b", 6, 101);
        is(x, "a", 5, 0);
        is(x, "c", 2, 2);
        is(x, "c", 3, 3);
        is(x, "c", 4, 6);
        loaded(x, 4, "z=1;");
        is(x, "b", 5, 0);
        isLong("as of the moment ahead", x.value(0, n("b"), 6, 3), 101);
        PayHouse late = new PayHouse();
        late.person();
        loaded(late, 2, "a=year a+last a+1;");
        is(late, "a", 1, 0);
        is(late, "a", 2, 1);
        is(late, "a", 4, 8);
        is(late, "a", 12, late.value(0, n("a"), 11, 1) + 1);
    }

    private static void valueIf() {
        PayHouse x = house("a=fact h+last a;b=fact h*fact k;");
        x.tell(0, n("h"), 0, 0, 59, 3);
        isLong("same month", x.valueIf(0, n("a"), 2, n("h"), 2, 10), 16);
        isLong("another month", x.valueIf(0, n("a"), 2, n("h"), 0, -10), -4);
        isLong("a later month", x.valueIf(0, n("a"), 2, n("h"), 3, 10), 9);
        isLong("another fact", x.valueIf(0, n("b"), 2, n("k"), 2, 1000000000), 3000000000L);
        isLong("the least one", x.valueIf(0, n("b"), 2, n("k"), 2, -1000000000), -3000000000L);
        isLong("an unused fact", x.valueIf(0, n("a"), 2, n("q"), 2, 10), 9);
        is(x, "a", 2, 9);
        isLong("undefined", x.valueIf(0, n("q"), 2, n("h"), 2, 10), 0);
        fails(x, INDEX, "person", () -> x.valueIf(1, 0, 0, 0, 0, 0));
        fails(x, INDEX, "month", () -> x.valueIf(0, 0, 60, 0, 0, 0));
        fails(x, INDEX, "factMonth", () -> x.valueIf(0, 0, 0, 0, 60, 0));
        fails(x, INDEX, "factMonth", () -> x.valueIf(0, n("a"), 0, n("h"), -1, 0));
        fails(x, ARGUMENT, "name", () -> x.valueIf(0, 0, 0, n("h"), 0, 0));
        fails(x, ARGUMENT, "fact", () -> x.valueIf(0, n("a"), 0, n("fact"), 0, 0));
        fails(x, ARGUMENT, "value", () -> x.valueIf(0, n("a"), 0, n("h"), 0, 1000000001L));
        fails(x, ARGUMENT, "value", () -> x.valueIf(0, n("a"), 0, n("h"), 0, -1000000001L));
        fails(x, ARGUMENT, "value", () -> x.valueIf(0, n("a"), 0, n("h"), 0, Long.MIN_VALUE));
    }

    private static void explained() {
        PayHouse x = house("a=if fact c<1 or fact d<1 then fact e else fact f;b=a+last a+a+fact e;"
                + "g=year a;h=part(fact x,0,0)+0*fact y;i=if not fact c<0 and fact d==1 then 1 else bands(fact z,1);");
        isLong("or stops", x.explained(0, n("a"), 3), 2);
        x.tell(0, n("c"), 0, 3, 3, 1);
        isLong("or goes on", x.explained(0, n("a"), 3), 3);
        x.tell(0, n("d"), 0, 3, 3, 1);
        isLong("else", x.explained(0, n("a"), 3), 3);
        isLong("each once", x.explained(0, n("b"), 3), 6);
        isLong("year", x.explained(0, n("g"), 4), 2 + 2 + 2 + 3);
        isLong("year in its first month", x.explained(0, n("g"), 12), 0);
        isLong("all parts", x.explained(0, n("h"), 0), 2);
        isLong("and", x.explained(0, n("i"), 3), 2);
        isLong("and, the other part", x.explained(0, n("i"), 4), 3);
        isLong("undefined", x.explained(0, n("q"), 4), 0);
        isLong("the month 0", x.explained(0, n("b"), 0), 2);
        fails(x, INDEX, "person", () -> x.explained(1, 0, 0));
        fails(x, INDEX, "month", () -> x.explained(0, 0, 60));
        fails(x, ARGUMENT, "name", () -> x.explained(0, 0, 0));
        StringBuilder many = new StringBuilder("a=last a");
        for (char letter = 'a'; letter <= 'z'; letter++) {
            many.append("+fact ").append(letter);
            many.append("+fact ").append(letter).append("a");
            many.append("+fact ").append(letter).append("b");
        }
        PayHouse y = house(many + ";");
        isLong("many", y.explained(0, n("a"), 59), 60 * 78);
        isLong("the last one", y.explainedName(0, n("a"), 59, 60 * 78 - 1), n("zb"));
        PayHouse z = new PayHouse();
        z.person();
        for (int version = 0; version < 4; version++) {
            isLong("a version with 90 facts", loaded(z, version, manyFacts(version)), version);
        }
        isLong("all facts", z.explained(0, n("a"), 30), 90);
        isLong("the last one", z.explainedName(0, n("a"), 3, 89), n("z"));
        isLong("errors", z.errors(), 0);
    }

    private static String manyFacts(int version) {
        StringBuilder many = new StringBuilder("a=0");
        for (int i = 0; i < 26; i++) {
            many.append("+fact ").append((char) ('a' + i));
        }
        for (int i = 0; i < 64; i++) {
            many.append("+fact ").append((char) ('a' + i % 8)).append((char) ('a' + (i / 8 + version) % 26));
        }
        return many.toString().replace("=0+", "=") + ";";
    }

    private static void explainedMonth() {
        PayHouse x = house("a=fact ab+fact a+fact b+last a;");
        int[] due = {0, 0, 0, 1, 1, 1};
        for (int i = 0; i < 6; i++) {
            isLong("month " + i, x.explainedMonth(0, n("a"), 1, i), due[i]);
        }
        fails(x, ELEMENT, "index 6", () -> x.explainedMonth(0, n("a"), 1, 6));
        fails(x, ELEMENT, "index -1", () -> x.explainedMonth(0, n("a"), 1, -1));
        fails(x, ELEMENT, "undefined", () -> x.explainedMonth(0, n("b"), 1, 0));
        fails(x, INDEX, "person", () -> x.explainedMonth(-1, 0, 0, 0));
        fails(x, INDEX, "month", () -> x.explainedMonth(0, 0, -1, 0));
        fails(x, ARGUMENT, "name", () -> x.explainedMonth(0, 0, 0, -1));
    }

    private static void explainedName() {
        PayHouse x = house("a=fact b+fact ab+fact a+fact abcdefgh+fact aa;");
        String[] due = {"a", "aa", "ab", "abcdefgh", "b"};
        for (int i = 0; i < 5; i++) {
            isLong(due[i], x.explainedName(0, n("a"), 7, i), n(due[i]));
        }
        loaded(x, 8, "a=fact z+fact aa+last a;");
        isLong("ahead", x.explainedName(0, n("a"), 8, 4), n("b"));
        isLong("then aa", x.explainedName(0, n("a"), 8, 5), n("aa"));
        isLong("then z", x.explainedName(0, n("a"), 8, 6), n("z"));
        fails(x, ELEMENT, "index 7", () -> x.explainedName(0, n("a"), 8, 7));
        fails(x, ELEMENT, "index -1", () -> x.explainedName(0, n("a"), 8, Integer.MIN_VALUE));
        fails(x, INDEX, "person", () -> x.explainedName(2, 0, 0, 0));
        fails(x, INDEX, "month", () -> x.explainedName(0, 0, 60, 0));
        fails(x, ARGUMENT, "name", () -> x.explainedName(0, n("or"), 0, 0));
    }

    private static void person() {
        PayHouse x = new PayHouse();
        for (int i = 0; i < 6; i++) {
            isLong("person", x.person(), i);
        }
        fails(x, STATE, "the 7th", x::person);
        isLong("claim(5)", x.claim(5), 0);
        fails(x, INDEX, "claim(6)", () -> x.claim(6));
        isLong("moment", x.moment(), 0);
    }

    private static void moment() {
        PayHouse x = house("a=1;");
        isLong("a version", x.moment(), 1);
        x.tell(0, n("a"), 0, 0, 0, 1);
        x.withdraw(0, n("a"), 0, 0, 0);
        isLong("statements", x.moment(), 3);
        x.takeBack(2);
        isLong("taken back", x.moment(), 4);
        told(x, "0a0 0-0=1;0a0 0-0=2;");
        isLong("a text", x.moment(), 6);
        told(x, "0a0 0-0=1;0a0 0-0=2");
        loaded(x, 0, "a");
        isLong("faults", x.moment(), 6);
        x.run();
        x.advance(0, 1);
        x.file(0);
        isLong("a run", x.moment(), 6);
    }

    private static void tell() {
        PayHouse x = house("");
        isLong("tell", x.tell(0, n("h"), 2, 3, 3, 1000000000), 2);
        isLong("tell", x.tell(0, n("none"), 0, 0, 59, -1000000000), 3);
        isLong("the greatest", x.factAt(0, n("h"), 3, 3), 1000000000);
        isLong("the smallest", x.factAt(0, n("none"), 59, 3), -1000000000);
        fails(x, INDEX, "person", () -> x.tell(1, 0, 3, 0, 0, 0));
        fails(x, INDEX, "from", () -> x.tell(0, 0, 3, -1, 0, 0));
        fails(x, INDEX, "to", () -> x.tell(0, 0, 3, 0, 60, 0));
        fails(x, INDEX, "from 60", () -> x.tell(0, n("h"), 0, 60, 60, 0));
        fails(x, ARGUMENT, "name", () -> x.tell(0, n("year"), 0, 0, 0, 0));
        fails(x, ARGUMENT, "source 3", () -> x.tell(0, n("h"), 3, 0, 0, 0));
        fails(x, ARGUMENT, "source -1", () -> x.tell(0, n("h"), -1, 0, 0, 0));
        fails(x, ARGUMENT, "to ahead", () -> x.tell(0, n("h"), 0, 4, 3, 0));
        fails(x, ARGUMENT, "value", () -> x.tell(0, n("h"), 0, 0, 0, 1000000001));
        fails(x, ARGUMENT, "value", () -> x.tell(0, n("h"), 0, 0, 0, -1000000001));
        for (int i = 2; i < 120; i++) {
            isLong("tell", x.tell(0, n("h"), 0, 0, 0, i), i + 2);
        }
        fails(x, STATE, "the 121st", () -> x.tell(0, n("h"), 0, 0, 0, 0));
        fails(x, ARGUMENT, "a value is first", () -> x.tell(0, n("h"), 0, 0, 0, 1000000001));
        isLong("the last one counts", x.factAt(0, n("h"), 0, 121), 119);
    }

    private static void withdraw() {
        PayHouse x = house("");
        x.tell(0, n("h"), 1, 0, 10, 5);
        x.tell(0, n("h"), 2, 0, 10, 6);
        isLong("withdraw", x.withdraw(0, n("h"), 2, 4, 5), 4);
        isLong("ahead", x.factAt(0, n("h"), 3, 4), 6);
        isLong("another source", x.factAt(0, n("h"), 4, 4), 5);
        isLong("behind", x.factAt(0, n("h"), 6, 4), 6);
        isLong("all", x.withdraw(0, n("h"), 1, 0, 59), 5);
        isLong("no value", x.sourceAt(0, n("h"), 5, 5), -1);
        isLong("told again", x.tell(0, n("h"), 2, 5, 5, 8), 6);
        isLong("told again", x.factAt(0, n("h"), 5, 6), 8);
        fails(x, INDEX, "person", () -> x.withdraw(1, 0, 3, 0, 0));
        fails(x, INDEX, "from", () -> x.withdraw(0, 0, 3, 60, 0));
        fails(x, INDEX, "to", () -> x.withdraw(0, 0, 3, 0, -1));
        fails(x, ARGUMENT, "name", () -> x.withdraw(0, 0, 0, 0, 0));
        fails(x, ARGUMENT, "source", () -> x.withdraw(0, n("h"), 3, 0, 0));
        fails(x, ARGUMENT, "to ahead", () -> x.withdraw(0, n("h"), 0, 1, 0));
        for (int i = 5; i < 120; i++) {
            x.withdraw(0, n("h"), 0, 0, 0);
        }
        fails(x, STATE, "the 121st", () -> x.withdraw(0, n("h"), 0, 0, 0));
        fails(x, ARGUMENT, "a source is first", () -> x.withdraw(0, n("h"), 3, 0, 0));
    }

    private static void takeBack() {
        PayHouse x = house("");
        x.tell(0, n("h"), 1, 0, 10, 5);
        x.withdraw(0, n("h"), 1, 3, 3);
        x.tell(0, n("h"), 1, 0, 10, 7);
        fails(x, ARGUMENT, "a version", () -> x.takeBack(1));
        fails(x, ARGUMENT, "moment 0", () -> x.takeBack(0));
        fails(x, ARGUMENT, "moment -1", () -> x.takeBack(-1));
        fails(x, ARGUMENT, "moment 5", () -> x.takeBack(5));
        isLong("takeBack", x.takeBack(4), 5);
        isLong("the withdrawal counts again", x.sourceAt(0, n("h"), 3, 5), -1);
        isLong("the first one counts again", x.factAt(0, n("h"), 4, 5), 5);
        isLong("as of the moment ahead", x.factAt(0, n("h"), 3, 4), 7);
        isLong("takeBack", x.takeBack(3), 6);
        isLong("the withdrawal is taken back", x.factAt(0, n("h"), 3, 6), 5);
        fails(x, ARGUMENT, "a taking back", () -> x.takeBack(5));
        fails(x, STATE, "again", () -> x.takeBack(4));
        for (int i = 5; i < 119; i++) {
            x.tell(0, n("h"), 0, 0, 0, 0);
        }
        isLong("the 120th", x.takeBack(2), 121);
        fails(x, STATE, "the 121st", () -> x.takeBack(7));
        fails(x, STATE, "the 121st", () -> x.tell(0, n("h"), 0, 0, 0, 0));
        fails(x, ARGUMENT, "the moment is first", () -> x.takeBack(121));
        isLong("a text", told(x, "0"), -3);
    }

    private static void factFault(String text, int place) {
        PayHouse x = house("");
        isLong("tellText of " + text, told(x, text), -3 - place);
        isLong("the moment after " + text, x.moment(), 1);
        isLong("the text after " + text, x.type(0), 0);
        isLong("no fact after " + text, x.firstChange(0, 0, x.moment()), -1);
    }

    private static void tellText() {
        PayHouse x = house("");
        isLong("an empty text", x.tellText(), 0);
        isLong("blanks", told(x, "   "), 0);
        isLong("two", told(x, "0 h 1 2-3 = 5;000h02 03-0059=-999999999;"), 2);
        isLong("first", x.factAt(0, n("h"), 2, 2), 5);
        isLong("second", x.factAt(0, n("h"), 59, 3), -999999999);
        isLong("not known yet", x.factAt(0, n("h"), 59, 2), 0);
        isLong("withdrawal", told(x, "0h2 3-3 none;0 k 0 0-0=- 0;"), 2);
        isLong("withdrawn", x.factAt(0, n("h"), 3, 4), 5);
        isLong("a 0", x.sourceAt(0, n("k"), 0, 5), 0);
        factFault("1 h 0 0-0=1;", 0);
        factFault("0", 1);
        factFault("0 h 0 0-0=1", 11);
        factFault("0 h 0 0-0=1 ", 12);
        factFault("0 none 0 0-0=1;", 2);
        factFault("0 if 0 0-0=1;", 2);
        factFault("0 abcdefghi 0 0-0=1;", 2);
        factFault("0 H 0 0-0=1;", 2);
        factFault("0 h 3 0-0=1;", 4);
        factFault("0 h 0 60-60=1;", 6);
        factFault("0 h 0 0 0=1;", 8);
        factFault("0 h 0 0-60=1;", 8);
        factFault("0 h 0 5-4=1;", 8);
        factFault("0 h 0 0-0==1;", 9);
        factFault("0 h 0 0-0<=1;", 9);
        factFault("0 h 0 0-0=none;", 10);
        factFault("0 h 0 0-0=--1;", 11);
        factFault("0 h 0 0-0=1234567890;", 10);
        factFault("0 h 0 0-0 nine;", 10);
        factFault("0 h 0 0-0 1;", 10);
        factFault("0 h 0 0-0 none", 14);
        factFault("0 h 0 0-0=1;0 h 0 0-0=1;;", 24);
        factFault("0 h 0 0-0=1;2", 12);
        factFault("h", 0);
        PayHouse none = new PayHouse();
        isLong("no person", told(none, "0h0 0-0=1;"), -3);
        PayHouse full = house("");
        for (int i = 0; i < 118; i++) {
            full.tell(0, n("h"), 0, 0, 0, 0);
        }
        isLong("121 statements", told(full, "0h0 0-0=1;0h0 0-0=1;0h0 0-0=1;"), -23);
        isLong("a bad byte at the 121st", told(full, "0h0 0-0=1;0h0 0-0=1; ?"), -24);
        isLong("none was made", full.moment(), 119);
        isLong("120 statements", told(full, "0h0 0-0=1;0h0 0-0=1; "), 2);
        isLong("full", told(full, " 0h0 0-0=1;"), -4);
        isLong("nothing more", told(full, " "), 0);
    }

    private static void factAt() {
        PayHouse x = house("");
        x.person();
        x.tell(0, n("h"), 0, 5, 9, 1);
        x.tell(0, n("h"), 2, 7, 9, 3);
        x.tell(0, n("h"), 1, 6, 9, 2);
        x.tell(0, n("h"), 2, 8, 8, 4);
        int[] due = {0, 1, 2, 3, 4, 3, 0};
        for (int i = 0; i < due.length; i++) {
            isLong("month " + (i + 4), x.factAt(0, n("h"), i + 4, 5), due[i]);
        }
        isLong("as of 2", x.factAt(0, n("h"), 8, 2), 1);
        isLong("as of 3", x.factAt(0, n("h"), 8, 3), 3);
        isLong("as of 1", x.factAt(0, n("h"), 8, 1), 0);
        isLong("another person", x.factAt(1, n("h"), 8, 5), 0);
        isLong("another name", x.factAt(0, n("k"), 8, 5), 0);
        fails(x, INDEX, "person", () -> x.factAt(2, 0, 0, 9));
        fails(x, INDEX, "month", () -> x.factAt(0, 0, 60, 9));
        fails(x, ARGUMENT, "name", () -> x.factAt(0, 0, 0, 0));
        fails(x, ARGUMENT, "moment 6", () -> x.factAt(0, n("h"), 0, 6));
        fails(x, ARGUMENT, "moment -1", () -> x.factAt(0, n("h"), 0, -1));
    }

    private static void sourceAt() {
        PayHouse x = house("");
        x.tell(0, n("h"), 0, 5, 9, 0);
        x.tell(0, n("h"), 2, 7, 9, 3);
        x.tell(0, n("h"), 1, 6, 9, 2);
        x.withdraw(0, n("h"), 2, 9, 9);
        int[] due = {-1, 0, 1, 2, 2, 1, -1};
        for (int i = 0; i < due.length; i++) {
            isLong("month " + (i + 4), x.sourceAt(0, n("h"), i + 4, 5), due[i]);
        }
        isLong("as of 4", x.sourceAt(0, n("h"), 9, 4), 2);
        fails(x, INDEX, "person", () -> x.sourceAt(1, 0, 0, 9));
        fails(x, INDEX, "month", () -> x.sourceAt(0, 0, -1, 9));
        fails(x, ARGUMENT, "name", () -> x.sourceAt(0, n("month"), 0, 0));
        fails(x, ARGUMENT, "moment 6", () -> x.sourceAt(0, n("h"), 0, 6));
    }

    private static void pieces() {
        PayHouse x = house("");
        isLong("no value", x.pieces(0, n("h"), 1), 1);
        x.tell(0, n("h"), 0, 5, 9, 0);
        isLong("a 0 is a value", x.pieces(0, n("h"), 2), 3);
        x.tell(0, n("h"), 1, 7, 9, 0);
        isLong("another source", x.pieces(0, n("h"), 3), 3);
        x.tell(0, n("h"), 1, 0, 6, 1);
        isLong("to the month 0", x.pieces(0, n("h"), 4), 3);
        x.tell(0, n("h"), 2, 8, 8, 2);
        isLong("in the middle", x.pieces(0, n("h"), 5), 5);
        isLong("as of 1", x.pieces(0, n("h"), 1), 1);
        x.tell(0, n("h"), 2, 0, 59, 2);
        isLong("all", x.pieces(0, n("h"), 6), 1);
        for (int month = 0; month < 60; month += 2) {
            x.tell(0, n("k"), 0, month, month, 7);
        }
        isLong("each month", x.pieces(0, n("k"), x.moment()), 60);
        fails(x, INDEX, "person", () -> x.pieces(1, 0, 99));
        fails(x, ARGUMENT, "name", () -> x.pieces(0, 0, 0));
        fails(x, ARGUMENT, "moment", () -> x.pieces(0, n("h"), 37));
        fails(x, ARGUMENT, "moment", () -> x.pieces(0, n("h"), -1));
    }

    private static void changes() {
        PayHouse x = house("");
        isLong("none", x.changes(0, n("h"), 5), 0);
        x.tell(0, n("h"), 0, 5, 9, 0);
        isLong("a 0", x.changes(0, n("h"), 5), 1);
        isLong("another month", x.changes(0, n("h"), 4), 0);
        x.tell(0, n("h"), 1, 5, 9, 0);
        isLong("the same value", x.changes(0, n("h"), 5), 1);
        x.tell(0, n("h"), 0, 5, 9, 4);
        isLong("a smaller source", x.changes(0, n("h"), 5), 1);
        x.takeBack(3);
        isLong("taken back", x.changes(0, n("h"), 5), 2);
        x.withdraw(0, n("h"), 0, 5, 5);
        isLong("withdrawn", x.changes(0, n("h"), 5), 3);
        loaded(x, 0, "");
        isLong("a version", x.changes(0, n("h"), 5), 3);
        fails(x, INDEX, "person", () -> x.changes(1, 0, 0));
        fails(x, INDEX, "month", () -> x.changes(0, 0, 60));
        fails(x, ARGUMENT, "name", () -> x.changes(0, 0, 0));
    }

    private static void firstChange() {
        PayHouse x = house("");
        x.person();
        x.tell(0, n("h"), 0, 5, 9, 0);
        x.tell(0, n("k"), 0, 3, 9, 1);
        x.tell(0, n("h"), 1, 4, 9, 0);
        x.takeBack(3);
        x.tell(1, n("h"), 1, 1, 9, 0);
        isLong("nothing", x.firstChange(0, 0, 1), -1);
        isLong("h", x.firstChange(0, 1, 2), 5);
        isLong("h and k", x.firstChange(0, 1, 3), 3);
        isLong("the other way", x.firstChange(0, 3, 1), 3);
        isLong("h from 4", x.firstChange(0, 3, 4), 4);
        isLong("k is gone", x.firstChange(0, 4, 5), 3);
        isLong("all of k is gone", x.firstChange(0, 2, 5), 4);
        isLong("another person", x.firstChange(0, 5, 6), -1);
        isLong("this person", x.firstChange(1, 0, 6), 1);
        isLong("the same moment", x.firstChange(1, 6, 6), -1);
        x.tell(0, n("h"), 2, 6, 20, 0);
        isLong("the same value", x.firstChange(0, 6, 7), 10);
        fails(x, INDEX, "person", () -> x.firstChange(2, -1, 0));
        fails(x, ARGUMENT, "moment", () -> x.firstChange(0, -1, 0));
        fails(x, ARGUMENT, "moment", () -> x.firstChange(0, 8, 0));
        fails(x, ARGUMENT, "later", () -> x.firstChange(0, 0, 8));
        fails(x, ARGUMENT, "later", () -> x.firstChange(0, 0, -1));
    }

    private static void presentMonth() {
        PayHouse x = house("pay a=1;");
        isLong("at first", x.presentMonth(), 0);
        for (int i = 1; i <= 60; i++) {
            x.run();
            isLong("after a run", x.presentMonth(), i);
        }
        x.correct(0);
        isLong("after a run of correct()", x.presentMonth(), 60);
    }

    private static void setReach() {
        PayHouse x = house("pay a=1;");
        isLong("at first", x.setReach(1), 59);
        isLong("then", x.setReach(0), 1);
        isLong("then", x.setReach(59), 0);
        fails(x, ARGUMENT, "60", () -> x.setReach(60));
        fails(x, ARGUMENT, "-1", () -> x.setReach(-1));
        isLong("still", x.setReach(2), 59);
        for (int i = 0; i < 5; i++) {
            x.run();
        }
        loaded(x, 0, "pay a=2;");
        x.run();
        isLong("the present month and 2 ahead", x.entries(5, 0), 3);
        isLong("the first one", x.entryAt(5, 0, 0, 0), 3);
        x.setReach(0);
        loaded(x, 0, "pay a=3;");
        x.run();
        isLong("the present month", x.entries(6, 0), 1);
        x.setReach(3);
        x.correct(0);
        isLong("correct() leaves the present month", x.entries(7, 0), 2);
        isLong("the first one", x.entryAt(7, 0, 0, 0), 4);
    }

    private static void run() {
        PayHouse x = new PayHouse();
        isLong("without persons", x.run(), 0);
        x.person();
        loaded(x, 0, "pay b=fact h*2;hold 1 a=b+1;cost 2 c=b+2;d=7;pay e=0;");
        x.tell(0, n("h"), 0, 0, 59, 10);
        isLong("run", x.run(), 1);
        isLong("both months", x.entries(1, 0), 6);
        isLong("nothing more", x.run(), 2);
        isLong("a month", x.entries(2, 0), 3);
        x.tell(0, n("h"), 0, 1, 1, 0);
        x.run();
        isLong("the difference", x.entries(3, 0), 6);
        isLong("a", x.entryAt(3, 0, 0, 3), -20);
        isLong("b", x.entryAt(3, 0, 1, 3), -20);
        isLong("net", x.net(3, 0), -20 + 20 + 20 - 21);
        loaded(x, 2, "hold 1 b=4;");
        x.run();
        isLong("lines that are no more", x.net(4, 0), 0 - 20 - 4 + 21 - 20 - 4 + 21 - 4);
        isLong("settled", x.settled(0, n("b"), 0, 2), 0);
        isLong("settled", x.settled(0, n("b"), 2, 2), 4);
        isLong("ahead of the version", x.settled(0, n("b"), 0, 0), 20);
        isLong("errors", x.errors(), 0);
        runWithoutEnd();
    }

    private static void runWithoutEnd() {
        PayHouse x = house("pay a=1;");
        for (int i = 0; i < 59; i++) {
            isLong("run", x.run(), i);
        }
        for (int i = 59; i < 89; i++) {
            isLong("correct", x.correct(0), i);
        }
        isLong("the 90th", x.run(), 89);
        fails(x, STATE, "month 60", x::run);
        fails(x, STATE, "run 90", () -> x.correct(0));
        isLong("present", x.presentMonth(), 60);
        PayHouse y = house("pay a=1;");
        y.run();
        for (int i = 1; i < 90; i++) {
            y.correct(0);
        }
        fails(y, STATE, "run 90", y::run);
        isLong("present", y.presentMonth(), 1);
        PayHouse z = house("pay a=1;");
        for (int i = 0; i < 60; i++) {
            z.run();
        }
        fails(z, STATE, "month 60", z::run);
        isLong("settled", z.settled(0, n("a"), 0, 59), 1);
    }

    private static void correct() {
        PayHouse x = house("pay a=fact h;");
        x.person();
        fails(x, INDEX, "person 2", () -> x.correct(2));
        fails(x, STATE, "month 0", () -> x.correct(0));
        x.tell(0, n("h"), 0, 0, 59, 10);
        x.tell(1, n("h"), 0, 0, 59, 20);
        x.withhold(0, 0, 1000, 1000);
        x.run();
        isLong("the withholding took", x.restOf(0), 990);
        x.tell(0, n("h"), 0, 0, 59, 11);
        x.tell(1, n("h"), 0, 0, 59, 21);
        isLong("correct", x.correct(0), 1);
        isLong("the month 0", x.entries(1, 0), 1);
        isLong("an empty slip", x.entries(1, 1), 0);
        isLong("no withholding", x.restOf(0), 990);
        isLong("payout", x.payout(1, 0), 1);
        isLong("no payout", x.payout(1, 1), 0);
        isLong("present", x.presentMonth(), 1);
        isLong("not settled", x.settled(0, n("a"), 0, 1), 0);
        x.setReach(0);
        x.comeBack(1, 0);
        isLong("correct without months", x.correct(0), 2);
        isLong("payments are made", x.payout(2, 0), 1);
        fails(x, INDEX, "person -1", () -> x.correct(-1));
        isLong("errors", x.errors(), 0);
    }

    private static void entries() {
        PayHouse x = house("pay a=1;hold 0 b=2;cost 1 c=3;pay d=0;");
        x.run();
        isLong("three", x.entries(0, 0), 3);
        x.person();
        isLong("came behind", x.entries(0, 1), 0);
        x.run();
        isLong("both months", x.entries(1, 1), 6);
        fails(x, INDEX, "run 2", () -> x.entries(2, 0));
        fails(x, INDEX, "run -1", () -> x.entries(-1, 0));
        fails(x, INDEX, "person 2", () -> x.entries(0, 2));
        fails(x, INDEX, "person -1", () -> x.entries(0, -1));
    }

    private static void entryAt() {
        PayHouse x = house("pay b=1;hold 3 ab=2;cost 0 a=3;pay aa=4;");
        loaded(x, 1, "hold 3 b=5;pay ab=6;");
        x.run();
        String[] names = {"a", "aa", "ab", "b"};
        long[] kinds = {5, 0, 4, 0};
        long[] differences = {3, 4, 2, 1};
        for (int i = 0; i < 4; i++) {
            isLong("month", x.entryAt(0, 0, i, 0), 0);
            isLong("name", x.entryAt(0, 0, i, 1), n(names[i]));
            isLong("kind", x.entryAt(0, 0, i, 2), kinds[i]);
            isLong("difference", x.entryAt(0, 0, i, 3), differences[i]);
        }
        loaded(x, 0, "pay ab=1;hold 2 b=7;");
        x.run();
        isText("the slip", slip(x, 1, 0), "0 a 5 -3,0 aa 0 -4,0 ab 0 1,0 ab 4 -2,0 b 0 -1,0 b 3 7,1 ab 0 6,1 b 4 5,");
        fails(x, INDEX, "run", () -> x.entryAt(2, 0, 0, 9));
        fails(x, INDEX, "person", () -> x.entryAt(0, 1, 0, 9));
        fails(x, ARGUMENT, "what 4", () -> x.entryAt(0, 0, 9, 4));
        fails(x, ARGUMENT, "what -1", () -> x.entryAt(0, 0, 0, -1));
        fails(x, ELEMENT, "index 4", () -> x.entryAt(0, 0, 4, 0));
        fails(x, ELEMENT, "index -1", () -> x.entryAt(0, 0, -1, 0));
        fails(x, ELEMENT, "index", () -> x.entryAt(0, 0, Integer.MAX_VALUE, 0));
    }

    private static String slip(PayHouse x, int run, int person) {
        StringBuilder all = new StringBuilder();
        for (int i = 0; i < x.entries(run, person); i++) {
            all.append(x.entryAt(run, person, i, 0)).append(' ');
            long name = x.entryAt(run, person, i, 1);
            for (int shift = 56; shift >= 0; shift -= 8) {
                if ((name >>> shift & 255) != 0) {
                    all.append((char) (name >>> shift & 255));
                }
            }
            all.append(' ').append(x.entryAt(run, person, i, 2));
            all.append(' ').append(x.entryAt(run, person, i, 3)).append(',');
        }
        return all.toString();
    }

    private static void net() {
        PayHouse x = house("pay a=10;pay b=20;hold 1 c=3;hold 2 d=4;cost 1 e=100;");
        x.run();
        isLong("net", x.net(0, 0), 23);
        loaded(x, 0, "hold 1 a=1;");
        x.run();
        isLong("net", x.net(1, 0), -23 - 1 - 1);
        x.person();
        isLong("came behind", x.net(1, 1), 0);
        fails(x, INDEX, "run", () -> x.net(2, 0));
        fails(x, INDEX, "person", () -> x.net(0, 2));
    }

    private static void lateNet() {
        PayHouse x = house("pay a=fact h;hold 0 b=1;cost 0 c=9;");
        x.run();
        isLong("the month 0", x.lateNet(0, 0), 0);
        x.tell(0, n("h"), 0, 0, 59, 5);
        x.run();
        isLong("the month 1", x.lateNet(1, 0), 5);
        x.tell(0, n("h"), 0, 0, 59, 7);
        x.correct(0);
        isLong("correct", x.net(2, 0), 4);
        isLong("the greatest one is 1", x.lateNet(2, 0), 2);
        x.tell(0, n("h"), 0, 0, 0, 8);
        x.correct(0);
        isLong("without entries in 1", x.lateNet(3, 0), 1);
        x.person();
        isLong("came behind", x.lateNet(3, 1), 0);
        x.setReach(0);
        x.correct(0);
        isLong("no month", x.lateNet(4, 0), 0);
        fails(x, INDEX, "run", () -> x.lateNet(5, 0));
        fails(x, INDEX, "person", () -> x.lateNet(0, 2));
    }

    private static void settled() {
        PayHouse x = house("pay a=5+month;cost 3 b=-6;c=7;");
        isLong("at first", x.settled(0, n("a"), 0, 0), 0);
        x.run();
        x.run();
        isLong("pay", x.settled(0, n("a"), 0, 1), 6);
        isLong("cost", x.settled(0, n("b"), 8, 0), -6);
        isLong("another kind", x.settled(0, n("a"), 1, 0), 0);
        isLong("no line", x.settled(0, n("c"), 0, 0), 0);
        isLong("unknown", x.settled(0, n("q"), 8, 59), 0);
        isLong("a month to come", x.settled(0, n("a"), 0, 2), 0);
        x.person();
        isLong("another person", x.settled(1, n("a"), 0, 0), 0);
        fails(x, INDEX, "person", () -> x.settled(2, 0, 9, 0));
        fails(x, INDEX, "month", () -> x.settled(0, 0, 9, 60));
        fails(x, ARGUMENT, "name", () -> x.settled(0, 0, 0, 0));
        fails(x, ARGUMENT, "kind 9", () -> x.settled(0, n("a"), 9, 0));
        fails(x, ARGUMENT, "kind -1", () -> x.settled(0, n("a"), -1, 0));
    }

    private static void again() {
        PayHouse x = house("pay a=fact h;hold 1 b=part(a,1,3);");
        x.tell(0, n("h"), 0, 0, 59, 100);
        x.run();
        x.person();
        x.tell(0, n("h"), 1, 0, 59, 50);
        x.tell(1, n("h"), 1, 0, 59, 70);
        x.run();
        x.setReach(0);
        loaded(x, 0, "pay a=fact h+1;pay c=3;");
        x.run();
        x.setReach(2);
        x.correct(1);
        x.takeBack(2);
        x.takeBack(3);
        x.run();
        for (int run = 0; run < 5; run++) {
            isLong("run " + run, x.again(run, 0), 0);
            isLong("run " + run, x.again(run, 1), 0);
        }
        isLong("errors", x.errors(), 0);
        fails(x, INDEX, "run", () -> x.again(5, 0));
        fails(x, INDEX, "run", () -> x.again(-1, 0));
        fails(x, INDEX, "person", () -> x.again(0, 2));
    }

    private static void setProtected() {
        PayHouse x = house("pay a=100;");
        isLong("at first", x.setProtected(0, 1000000000), 0);
        isLong("then", x.setProtected(0, 0), 1000000000);
        isLong("then", x.setProtected(0, 70), 0);
        x.advance(0, 50);
        x.run();
        isLong("the claim takes 30", x.claim(0), 20);
        isLong("payout", x.payout(0, 0), 70);
        x.run();
        isLong("the claim takes 20", x.claim(0), 0);
        isLong("payout", x.payout(1, 0), 80);
        fails(x, INDEX, "person", () -> x.setProtected(1, -1));
        fails(x, ARGUMENT, "amount", () -> x.setProtected(0, -1));
        fails(x, ARGUMENT, "amount", () -> x.setProtected(0, 1000000001));
        isLong("still", x.setProtected(0, 200), 70);
        x.advance(0, 7);
        x.withhold(0, 0, 10, 10);
        x.run();
        isLong("below the protected amount", x.payout(2, 0), 100);
        isLong("the claim stays", x.claim(0), 7);
        isLong("the withholding stays", x.restOf(0), 10);
    }

    private static void withhold() {
        PayHouse x = house("pay a=100;");
        isLong("first", x.withhold(0, 5, 1000000000, 30), 0);
        isLong("second", x.withhold(0, 2, 50, 1000000000), 1);
        isLong("third", x.withhold(0, 5, 10, 1), 2);
        x.run();
        isLong("priority 2", x.restOf(1), 0);
        isLong("priority 5", x.restOf(0), 1000000000 - 30);
        isLong("priority 5", x.restOf(2), 9);
        isLong("payout", x.payout(0, 0), 19);
        isLong("bank", x.balance(0), -100);
        withholdCents();
        fails(x, INDEX, "person", () -> x.withhold(1, -1, 0, 0));
        fails(x, ARGUMENT, "priority 10", () -> x.withhold(0, 10, 1, 1));
        fails(x, ARGUMENT, "priority -1", () -> x.withhold(0, -1, 1, 1));
        fails(x, ARGUMENT, "amount 0", () -> x.withhold(0, 0, 0, 1));
        fails(x, ARGUMENT, "amount", () -> x.withhold(0, 0, 1000000001, 1));
        fails(x, ARGUMENT, "most 0", () -> x.withhold(0, 0, 1, 0));
        fails(x, ARGUMENT, "most", () -> x.withhold(0, 0, 1, 1000000001));
        for (int i = 3; i < 8; i++) {
            isLong("withhold", x.withhold(0, 9, 1, 1), i);
        }
        fails(x, STATE, "the 9th", () -> x.withhold(0, 9, 1, 1));
        fails(x, ARGUMENT, "a priority is first", () -> x.withhold(0, 10, 1, 1));
    }

    private static void withholdCents() {
        PayHouse x = house("pay a=fact h;");
        x.person();
        x.tell(0, n("h"), 0, 0, 0, 110);
        x.setProtected(0, 10);
        x.withhold(0, 0, 1, 1);
        x.withhold(0, 3, 100, 50);
        x.withhold(0, 3, 70, 100);
        x.withhold(1, 3, 1000, 1000);
        x.withhold(0, 3, 50, 50);
        x.withhold(0, 4, 50, 50);
        x.run();
        // 99 there, wants 50, 70, 50: 29, 40, 29 and one cent for the first.
        isLong("priority 0", x.restOf(0), 0);
        isLong("first", x.restOf(1), 100 - 30);
        isLong("second", x.restOf(2), 70 - 40);
        isLong("another person", x.restOf(3), 1000);
        isLong("third", x.restOf(4), 50 - 29);
        isLong("nothing is left", x.restOf(5), 50);
        isLong("payout", x.payout(0, 0), 10);
        PayHouse y = house("pay a=2;");
        y.withhold(0, 0, 1, 1);
        y.run();
        y.withhold(0, 0, 5, 5);
        y.withhold(0, 0, 5, 5);
        y.withhold(0, 0, 5, 5);
        y.run();
        isLong("no want, no cent", y.restOf(0), 0);
        isLong("a cent", y.restOf(1), 4);
        isLong("a cent", y.restOf(2), 4);
        isLong("no cent is left", y.restOf(3), 5);
        PayHouse z = house("pay a=999999999*7;");
        for (int i = 0; i < 8; i++) {
            z.withhold(0, 9, 1000000000, 1000000000);
        }
        z.run();
        isLong("great amounts", z.restOf(0), 1000000000 - 874999999 - 1);
        isLong("great amounts", z.restOf(1), 1000000000 - 874999999);
        isLong("payout", z.payout(0, 0), 0);
        isLong("errors", z.errors(), 0);
    }

    private static void restOf() {
        PayHouse x = house("pay a=3;");
        x.withhold(0, 0, 5, 2);
        isLong("at first", x.restOf(0), 5);
        x.run();
        isLong("then", x.restOf(0), 3);
        x.run();
        x.run();
        isLong("at last", x.restOf(0), 0);
        isLong("what is left is wanted", x.payout(2, 0), 2);
        fails(x, INDEX, "1", () -> x.restOf(1));
        fails(x, INDEX, "-1", () -> x.restOf(-1));
    }

    private static void advance() {
        PayHouse x = house("pay a=3;");
        isLong("advance", x.advance(0, 1), 1);
        isLong("advance", x.advance(0, 1000000000), 1000000001);
        isLong("bank", x.balance(0), -1000000001);
        isLong("claims", x.balance(3), 1000000001);
        x.run();
        isLong("the claim takes all", x.payout(0, 0), 0);
        isLong("claim", x.claim(0), 1000000001 - 3);
        fails(x, INDEX, "person", () -> x.advance(1, 0));
        fails(x, ARGUMENT, "0", () -> x.advance(0, 0));
        fails(x, ARGUMENT, "-1", () -> x.advance(0, -1));
        fails(x, ARGUMENT, "1000000001", () -> x.advance(0, 1000000001));
    }

    private static void claim() {
        PayHouse x = house("pay a=fact h;");
        x.tell(0, n("h"), 0, 0, 0, -50);
        x.run();
        isLong("below 0", x.claim(0), 50);
        isLong("no payout", x.payout(0, 0), 0);
        isLong("bank", x.balance(0), 0);
        x.tell(0, n("h"), 0, 1, 1, 20);
        x.run();
        isLong("less", x.claim(0), 30);
        x.tell(0, n("h"), 0, 2, 2, 31);
        x.run();
        isLong("none", x.claim(0), 0);
        isLong("payout", x.payout(2, 0), 1);
        fails(x, INDEX, "person 1", () -> x.claim(1));
        fails(x, INDEX, "person -1", () -> x.claim(-1));
    }

    private static void payout() {
        PayHouse x = house("pay a=fact h;hold 1 b=part(a,1,10);");
        x.tell(0, n("h"), 0, 0, 59, 100);
        x.run();
        x.person();
        x.run();
        isLong("payout", x.payout(0, 0), 90);
        isLong("payout", x.payout(1, 0), 90);
        isLong("nothing", x.payout(1, 1), 0);
        isLong("came behind", x.payout(0, 1), 0);
        isLong("bank", x.balance(0), -180);
        fails(x, INDEX, "run", () -> x.payout(2, 0));
        fails(x, INDEX, "person", () -> x.payout(0, 2));
    }

    private static void comeBack() {
        PayHouse x = house("pay a=if month<3 then 10 else -25;");
        x.person();
        x.run();
        x.run();
        isLong("comeBack", x.comeBack(0, 0), 10);
        fails(x, STATE, "again", () -> x.comeBack(0, 0));
        isLong("another one", x.comeBack(1, 0), 20);
        isLong("another person", x.comeBack(1, 1), 10);
        isLong("bank", x.balance(0), -40 + 30);
        isLong("waiting amounts", x.balance(4), -30);
        x.run();
        isLong("paid again", x.payout(2, 0), 30);
        isLong("paid again", x.payout(2, 1), 20);
        isLong("waiting amounts", x.balance(4), 0);
        isLong("it can come back", x.comeBack(2, 0), 30);
        x.run();
        isLong("the waiting amount is used", x.payout(3, 0), 5);
        isLong("claim", x.claim(1), 25);
        fails(x, STATE, "a payout of 0", () -> x.comeBack(3, 1));
        x.person();
        fails(x, STATE, "came behind", () -> x.comeBack(0, 2));
        fails(x, INDEX, "run", () -> x.comeBack(4, 0));
        fails(x, INDEX, "person", () -> x.comeBack(0, 3));
        isLong("errors", x.errors(), 0);
    }

    private static void owed() {
        PayHouse x = house("hold 0 a=1;cost 0 b=2;hold 3 c=4;cost 3 d=fact h;pay e=100;");
        x.tell(0, n("h"), 0, 0, 0, 8);
        x.run();
        isLong("0", x.owed(0), 3);
        isLong("1", x.owed(1), 0);
        isLong("3", x.owed(3), 12);
        isLong("balance", x.balance(2), -15);
        x.remit(3, 12);
        x.withdraw(0, n("h"), 0, 0, 0);
        x.run();
        isLong("below 0", x.owed(3), -4);
        fails(x, INDEX, "4", () -> x.owed(4));
        fails(x, INDEX, "-1", () -> x.owed(-1));
    }

    private static void file() {
        PayHouse x = house("hold 0 a=1;cost 1 b=2;");
        for (int i = 1; i <= 20; i++) {
            isLong("file", x.file(0), i);
        }
        fails(x, STATE, "the 21st", () -> x.file(0));
        x.run();
        isLong("another one", x.file(1), 1);
        isLong("filed", x.filed(1, 0, 0), 2);
        fails(x, INDEX, "4", () -> x.file(4));
        fails(x, INDEX, "-1", () -> x.file(-1));
        isLong("moment", x.moment(), 1);
        isLong("errors", x.errors(), 0);
    }

    private static void filed() {
        PayHouse x = house("hold 2 a=fact h;cost 2 b=1;pay c=50;cost 3 d=9;");
        x.person();
        x.tell(0, n("h"), 0, 0, 59, 10);
        x.run();
        x.run();
        x.file(2);
        isLong("month 0", x.filed(2, 0, 0), 12);
        isLong("month 1", x.filed(2, 0, 1), 12);
        isLong("month 2", x.filed(2, 0, 2), 0);
        x.tell(1, n("h"), 0, 1, 1, -5);
        x.file(2);
        isLong("nothing new", x.filed(2, 1, 1), 0);
        x.run();
        x.file(2);
        isLong("month 0", x.filed(2, 2, 0), 0);
        isLong("month 1", x.filed(2, 2, 1), -5);
        isLong("month 2", x.filed(2, 2, 2), 12);
        isLong("the first one stays", x.filed(2, 0, 1), 12);
        fails(x, ELEMENT, "filing 3", () -> x.filed(2, 3, 0));
        fails(x, ELEMENT, "filing -1", () -> x.filed(2, -1, 0));
        fails(x, ELEMENT, "no filing", () -> x.filed(3, 0, 0));
        fails(x, INDEX, "authority", () -> x.filed(4, 9, 0));
        fails(x, INDEX, "month", () -> x.filed(2, 9, 60));
        x.run();
        isLong("errors", x.errors(), 0);
    }

    private static void remit() {
        PayHouse x = house("hold 1 a=10;");
        fails(x, STATE, "nothing is owed", () -> x.remit(1, 1));
        x.run();
        isLong("remit", x.remit(1, 4), 6);
        fails(x, STATE, "less is owed", () -> x.remit(1, 7));
        isLong("remit", x.remit(1, 6), 0);
        isLong("bank", x.balance(0), -10);
        fails(x, INDEX, "authority", () -> x.remit(4, 0));
        fails(x, INDEX, "authority", () -> x.remit(-1, 1));
        fails(x, ARGUMENT, "0", () -> x.remit(1, 0));
        fails(x, ARGUMENT, "-1", () -> x.remit(1, -1));
        fails(x, ARGUMENT, "1000000001", () -> x.remit(1, 1000000001));
    }

    private static void balance() {
        PayHouse x = house("pay a=100;hold 1 b=20;cost 2 c=7;");
        x.person();
        x.withhold(0, 0, 30, 30);
        x.advance(1, 200);
        x.run();
        x.remit(1, 15);
        x.comeBack(0, 0);
        isLong("bank", x.balance(0), -30 - 200 - 15);
        isLong("wages", x.balance(1), 214);
        isLong("authorities", x.balance(2), -(40 + 14 - 15));
        isLong("claims", x.balance(3), 120);
        isLong("waiting", x.balance(4), -50);
        isLong("errors", x.errors(), 0);
        fails(x, ARGUMENT, "5", () -> x.balance(5));
        fails(x, ARGUMENT, "-1", () -> x.balance(-1));
    }

    private static void checksum() {
        PayHouse x = house("pay a=100;hold 1 b=20;pay c=1;");
        isLong("at first", x.checksum(), (((1L * 31) * 31) * 31 * 31) * 31);
        x.person();
        x.withhold(0, 0, 30, 10);
        x.advance(1, 200);
        x.run();
        x.comeBack(0, 0);
        long[] numbers = {1, 1, 0, 71, 101, 119, 0, 101, 20, -210};
        long due = 0;
        for (long number : numbers) {
            due = 31 * due + number;
        }
        isLong("then", x.checksum(), due);
        isLong("again", x.checksum(), due);
    }

    private static void meanNet() {
        PayHouse x = house("pay a=fact h;");
        x.person();
        x.person();
        x.tell(0, n("h"), 0, 0, 59, 10);
        x.tell(2, n("h"), 0, 0, 59, -3);
        x.run();
        x.person();
        is("a third", x.meanNet(0), 7.0 / 3.0);
        x.tell(0, n("h"), 0, 0, 59, 11);
        x.correct(0);
        is("of four", x.meanNet(1), 0.25);
        PayHouse none = new PayHouse();
        none.run();
        is("without persons", none.meanNet(0), 0.0);
        none.person();
        is("without persons then", none.meanNet(0), 0.0);
        fails(x, INDEX, "run 2", () -> x.meanNet(2));
        fails(x, INDEX, "run -1", () -> x.meanNet(-1));
    }

    private static void lateShare() {
        PayHouse x = house("pay a=fact h;cost 1 b=1;");
        is("without entries", x.lateShare(), 0.0f);
        x.run();
        is("none", x.lateShare(), 0.0f);
        x.tell(0, n("h"), 0, 0, 0, 1);
        x.run();
        is("1 of 3", x.lateShare(), 1.0f / 3.0f);
        x.tell(0, n("h"), 0, 0, 1, 2);
        x.correct(0);
        is("2 of 5", x.lateShare(), 2.0f / 5.0f);
    }

    private static void errors() {
        PayHouse x = house("pay a=fact h+last a;hold01b=if a<5then 1else bands(a,3:100,10000);cost 2c=year a;");
        for (int i = 0; i < 5; i++) {
            x.person();
        }
        for (int i = 0; i < 60; i++) {
            x.tell(i % 6, n("h"), i % 3, i % 50, 59, i * 1000 - 9000);
            if (i % 5 == 0) {
                x.run();
                x.correct(i % 6);
                x.file(i % 4);
            }
        }
        isLong("errors", x.errors(), 0);
        great();
        try {
            tampered();
        } catch (NoSuchFieldException e) {
            // How the state is held is free; this can only be tried while it is held as now.
            System.out.println("nothing was spoilt for errors(), for want of the field " + e.getMessage());
        }
    }

    // As many persons as there can be, and many lines, runs and entries.
    private static void great() {
        PayHouse x = new PayHouse();
        for (int i = 0; i < 6; i++) {
            x.person();
        }
        for (int run = 0; run < 60; run++) {
            if (run % 10 == 0) {
                char second = (char) ('o' + run / 10);
                StringBuilder rules = new StringBuilder();
                for (int i = 0; i < 16; i++) {
                    String name = "" + (char) ('c' + i % 5) + second + (char) ('a' + i);
                    rules.append(i % 2 == 0 ? "pay " : "hold2").append(name).append("=fact h+year ");
                    rules.append(name).append(';');
                }
                isLong("a version", loaded(x, 0, rules.toString()), run / 10);
            }
            if (run % 3 == 0) {
                x.tell(run % 6, n("h"), run % 2, 0, 59, run * 100 + 1);
            }
            isLong("run", x.run(), run);
        }
        for (int run = 60; run < 80; run++) {
            isLong("correct", x.correct(run % 6), run);
        }
        isLong("many entries", x.entries(50, 0) > 1000 ? 1 : 0, 1);
        isLong("errors of many", x.errors(), 0);
    }

    // What is always 0 is shown to be counted, by spoiling what the house holds.
    private static void tampered() throws NoSuchFieldException {
        PayHouse x = house("pay a=fact h;hold 1 b=1;");
        x.person();
        loaded(x, 0, "pay a=fact h;hold 1 b=1;cost 2 c=2;");
        x.tell(0, n("h"), 0, 0, 59, 10);
        x.run();
        x.run();
        x.file(1);
        x.file(2);
        isLong("errors", x.errors(), 0);
        long[] amounts = (long[]) held(held(x, "ledger"), "amounts");
        amounts[1]++;
        isLong("a settled amount", x.errors(), 1);
        amounts[1]--;
        long[] differences = (long[]) held(held(x, "ledger"), "differences");
        differences[0]++;
        isLong("an entry: what is settled, and the slips of both runs", x.errors(), 3);
        isLong("an entry of the slip", x.again(0, 0), 2);
        isLong("settled ahead of the slip", x.again(1, 0), 1);
        isLong("another person", x.again(0, 1), 0);
        differences[0]--;
        Object first = ((Object[]) held(x, "versions"))[0];
        byte[] text = (byte[]) held(first, "text");
        text[4] = '=';
        isLong("a version that cannot be read", x.errors(), 1);
        text[4] = 'a';
        loaded(x, 9, "z=10;");
        byte[] number = (byte[]) held(((Object[]) held(x, "versions"))[2], "text");
        number[2] = '0';
        isLong("a version that is not written the same", x.errors(), 1);
        number[2] = '1';
        loaded(x, 9, "hold 2 y=1;");
        byte[] blanks = (byte[]) held(((Object[]) held(x, "versions"))[3], "text");
        blanks[4] = '2';
        blanks[5] = ' ';
        isLong("a version that is written as long, but otherwise", x.errors(), 1);
        blanks[4] = ' ';
        blanks[5] = '2';
        long[] filings = (long[]) held(held(x, "books"), "filings");
        filings[20 * 60 + 1]++;
        filings[20 * 60 + 2]--;
        isLong("a filing of one authority", x.errors(), 1);
        filings[20 * 60 * 2]++;
        isLong("filings of two", x.errors(), 2);
        filings[20 * 60 + 1]--;
        filings[20 * 60 + 2]++;
        filings[20 * 60 * 2]--;
        x.file(0);
        x.file(3);
        filings[59]++;
        isLong("a filing of the first authority", x.errors(), 1);
        filings[59]--;
        filings[20 * 60 * 3 + 59]++;
        isLong("a filing of the last authority", x.errors(), 1);
        filings[20 * 60 * 3 + 59]--;
        long[] claims = (long[]) held(held(x, "books"), "claims");
        claims[0] += 5;
        isLong("the balances", x.errors(), 1);
        claims[0] -= 5;
        isLong("errors", x.errors(), 0);
    }

    private static Object held(Object holder, String name) throws NoSuchFieldException {
        java.lang.reflect.Field field = holder.getClass().getDeclaredField(name);
        try {
            field.setAccessible(true);
            return field.get(holder);
        } catch (IllegalAccessException e) {
            throw new IllegalStateException(name, e);
        }
    }
}
