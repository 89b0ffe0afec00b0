import java.io.IOException;
import java.nio.charset.StandardCharsets;
import java.nio.file.Files;
import java.nio.file.Path;
import java.util.NoSuchElementException;

/** What the tests of the boundaries use: sentences of the document, checks, texts, and pictures of houses. */
final class Bounds {
    static final Class<?> INDEX = IndexOutOfBoundsException.class;
    static final Class<?> ARGUMENT = IllegalArgumentException.class;
    static final Class<?> STATE = IllegalStateException.class;
    static final Class<?> ELEMENT = NoSuchElementException.class;
    static final int LEAST = Integer.MIN_VALUE;
    static final int MOST = Integer.MAX_VALUE;
    static final long AMOUNT = 1000000000L;
    static final long LIMIT = 100000000000000L;
    static final String[] WORDS = {"pay", "hold", "cost", "if", "then", "else", "or", "and", "not", "fact",
        "last", "year", "month", "min", "max", "part", "bands"};

    private static final String DOCUMENT = document();
    private static String uncovered = DOCUMENT;
    private static String sentence = "";
    private static int checks;
    private static int wrong;

    interface Maker {
        PayHouse make();
    }

    interface Call {
        double on(PayHouse x);
    }

    private Bounds() {
    }

    // ---- the sentences

    private static String document() {
        try {
            String all = Files.readString(Path.of("../shared/DOC.md"), StandardCharsets.UTF_8);
            return plain(all.substring(all.indexOf("## What it is")));
        } catch (IOException e) {
            throw new IllegalStateException("../shared/DOC.md", e);
        }
    }

    private static String plain(String text) {
        return text.replaceAll("\\s+", " ");
    }

    /** The checks that follow are about this sentence, whose words must stand in the document. */
    static void sentence(String words) {
        sentence = plain(words);
        truth("the words stand in the document", DOCUMENT.contains(sentence));
        uncovered = uncovered.replace(sentence, "@");
    }

    /** The words of the document from some on, up to others. */
    static String between(String first, String behind) {
        int from = DOCUMENT.indexOf(first);
        int to = DOCUMENT.indexOf(behind, Math.max(0, from));
        truth(first + " and " + behind + " stand in the document", from >= 0 && to >= 0);
        return from < 0 || to < 0 ? "" : DOCUMENT.substring(from, to);
    }

    /** The checks that follow are about this promise's call. */
    static void promise(int number, String name) {
        sentence = "Promise " + number + ": " + name;
        truth("the promise stands in the document", DOCUMENT.contains("## " + sentence + " "));
    }

    static void finish(String[] args) {
        if (args.length > 0 && args[0].equals("uncovered")) {
            System.out.println(uncovered.replaceAll("(@ *)+", "\n@\n"));
        }
        System.out.println(checks + " checks of boundaries, " + wrong + " wrong");
        if (wrong != 0) {
            System.exit(1);
        }
    }

    // ---- the checks

    private static void tellWrong(String words) {
        wrong++;
        String about = sentence.length() > 60 ? sentence.substring(0, 60) + ".." : sentence;
        System.out.println("\"" + about + "\": " + words);
    }

    static void same(String what, long got, long due) {
        checks++;
        if (got != due) {
            tellWrong(what + " answered " + got + ", due is " + due);
        }
    }

    static void sameReal(String what, double got, double due) {
        checks++;
        if (got != due) {
            tellWrong(what + " answered " + got + ", due is " + due);
        }
    }

    static void sameText(String what, String got, String due) {
        checks++;
        if (!got.equals(due)) {
            tellWrong(what + " is " + got + ", due is " + due);
        }
    }

    static void truth(String what, boolean so) {
        checks++;
        if (!so) {
            tellWrong("not so: " + what);
        }
    }

    /** What the call throws, or null; a throw of the machine or of the library is told as wrong. */
    private static Class<?> thrownBy(PayHouse x, String what, Call call) {
        try {
            call.on(x);
            return null;
        } catch (RuntimeException e) {
            StackTraceElement[] trace = e.getStackTrace();
            if (trace.length == 0 || !trace[0].getClassName().startsWith("PayHouse")) {
                tellWrong(what + " was left by " + e);
            }
            return e.getClass();
        }
    }

    /** The call must throw just this, and the house must then be as one that was never asked. */
    static void refused(Class<?> due, String what, Maker maker, Call call) {
        PayHouse asked = maker.make();
        PayHouse twin = maker.make();
        refusedBy(asked, due, what, call);
        sameText("the house after " + what, picture(asked), picture(twin));
    }

    /** The call must leave the house as one that was never asked. */
    static void leaves(String what, Maker maker, Call call) {
        PayHouse asked = maker.make();
        PayHouse twin = maker.make();
        call.on(asked);
        sameText("the house after " + what, picture(asked), picture(twin));
    }

    /** The call must throw just this; of the house only what is told by few calls is looked at. */
    static void refusedBy(PayHouse x, Class<?> due, String what, Call call) {
        checks++;
        String before = glance(x);
        Class<?> got = thrownBy(x, what, call);
        if (got != due) {
            tellWrong(what + " threw " + got + ", due is " + due);
        }
        sameText("a glance after " + what, glance(x), before);
    }

    private static String glance(PayHouse x) {
        return x.checksum() + " " + x.type(0) + " " + x.faultKind() + " " + x.outputByte(0);
    }

    static void taken(PayHouse x, String what, Call call) {
        checks++;
        Class<?> got = thrownBy(x, what, call);
        if (got != null) {
            tellWrong(what + " threw " + got);
        }
    }

    // ---- texts and names

    static long n(String name) {
        long number = 0;
        for (int i = 0; i < name.length(); i++) {
            number = number << 8 | name.charAt(i) & 255;
        }
        return number;
    }

    static int typed(PayHouse x, String text) {
        int length = -1;
        for (int i = 0; i == 0 || i < text.length(); i += 8) {
            length = x.type(n(text.substring(i, Math.min(text.length(), i + 8))));
        }
        return length;
    }

    static int loaded(PayHouse x, int month, String text) {
        typed(x, text);
        return x.load(month);
    }

    static int told(PayHouse x, String text) {
        typed(x, text);
        return x.tellText();
    }

    static String written(PayHouse x, int version) {
        int length = x.write(version);
        same("the byte behind the output", x.outputByte(length), PayHouse.NONE);
        return bytes(x, 0, length);
    }

    /** What the first version is written as, read from several such houses, since a house is asked but 512 times. */
    static String writtenByParts(Maker maker) {
        StringBuilder all = new StringBuilder();
        int length = maker.make().write(0);
        for (int from = 0; from < length; from += 200) {
            PayHouse x = maker.make();
            same("the length", x.write(0), length);
            all.append(bytes(x, from, Math.min(length, from + 200)));
        }
        return all.toString();
    }

    private static String bytes(PayHouse x, int from, int to) {
        StringBuilder all = new StringBuilder();
        for (int i = from; i < to; i++) {
            all.append((char) x.outputByte(i));
        }
        return all.toString();
    }

    // ---- houses

    /** A house with so many persons. */
    static PayHouse people(int count) {
        PayHouse x = new PayHouse();
        for (int i = 0; i < count; i++) {
            x.person();
        }
        return x;
    }

    /** A house with one person and these rules from the month 0 on. */
    static PayHouse ruled(String rules) {
        PayHouse x = people(1);
        same("load of " + rules, loaded(x, 0, rules), 0);
        return x;
    }

    /** A house in which something of everything is, at the moment 6 and in the month 2. */
    static PayHouse standing() {
        PayHouse x = people(2);
        loaded(x, 0, "pay a=fact h;hold 1 b=part(a,1,10);cost 2 c=5;d=fact h+last d;");
        x.tell(0, n("h"), 0, 0, 59, 1000);
        x.tell(1, n("h"), 1, 0, 30, 500);
        x.withdraw(1, n("h"), 1, 5, 6);
        x.takeBack(4);
        loaded(x, 9, "pay a=1;");
        x.withhold(0, 0, 300, 100);
        x.setProtected(1, 50);
        x.advance(1, 20);
        x.run();
        x.setReach(7);
        x.run();
        x.comeBack(0, 1);
        x.file(1);
        x.remit(1, 10);
        x.write(0);
        loaded(x, 0, "a=b;");
        typed(x, "a=7;");
        return x;
    }

    // ---- the picture of a house

    private static final class Album {
        private final StringBuilder all = new StringBuilder();

        void add(double number) {
            all.append(number).append(' ');
        }

        /** Adds the answers to the call with 0, 1, 2 and so on, until it throws. */
        void addAll(NumberedCall call) {
            addSome(200, call);
        }

        void addSome(int most, NumberedCall call) {
            boolean answers = true;
            for (int i = 0; answers && i < most; i++) {
                try {
                    add(call.with(i));
                } catch (RuntimeException e) {
                    all.append(e.getClass().getSimpleName()).append(' ');
                    answers = false;
                }
            }
        }
    }

    private interface NumberedCall {
        double with(int number);
    }

    /** What a house answers now, and what it answers when it is used up to its limits, by 512 calls in all. */
    private static String picture(PayHouse x) {
        Album album = new Album();
        present(x, album);
        future(x, album);
        return album.all.toString();
    }

    private static void present(PayHouse x, Album album) {
        for (int i = 0; i < 4; i++) {
            album.add(x.outputByte(i * 5));
        }
        album.add(x.checksum());
        album.add(x.faultKind());
        album.add(x.moment());
        album.add(x.presentMonth());
        album.add(x.lateShare());
        album.add(x.errors());
        album.addAll(x::balance);
        album.addAll(x::owed);
        album.addAll(x::claim);
        album.addAll(x::restOf);
        album.addSome(3, x::meanNet);
        album.addAll(x::definitions);
        album.add(x.versionInForce(0, x.moment()));
        album.addAll(filing -> x.filed(1, filing, 0));
        long fact = n("h");
        int moment = x.moment();
        album.addAll(person -> x.factAt(person, fact, 5, moment) + 7 * x.sourceAt(person, fact, 5, moment)
                + 77 * x.pieces(person, fact, moment) + 777 * x.changes(person, fact, 5));
        album.addAll(person -> x.settled(person, n("a"), 0, 0));
    }

    private static void future(PayHouse x, Album album) {
        album.add(x.setReach(59));
        album.addAll(person -> x.setProtected(person, 1));
        album.addAll(person -> x.comeBack(1, person));
        album.add(x.type(0));
        try {
            int version = x.load(1);
            album.add(version);
            album.add(x.faultKind());
            album.add(version < 0 ? 0 : x.write(version));
            album.add(x.outputByte(2));
        } catch (IllegalStateException e) {
            album.add(x.tellText());
        }
        album.addAll(i -> x.person());
        album.addAll(i -> x.withhold(i % 2, i, 9, 3));
        album.addAll(i -> loaded(x, i, "pay a=fact h+" + i + ";"));
        album.addAll(i -> x.tell(0, n("h"), 2, i % 60, 59, i));
        album.addSome(20, i -> x.run());
        album.addSome(12, i -> x.correct(0));
        album.addAll(i -> x.file(1));
        present(x, album);
    }
}
