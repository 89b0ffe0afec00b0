import java.math.BigInteger;
import java.util.ArrayList;
import java.util.HashMap;
import java.util.List;
import java.util.Map;
import java.util.NoSuchElementException;
import java.util.Random;
import java.util.Set;
import java.util.TreeMap;
import java.util.TreeSet;

/**
 * Random calls, each answered by the program and by a plain model written after the document alone:
 * trees instead of steps, BigInteger, maps, and snapshots. Arguments: none, or how many runs.
 */
public final class PayHouseAgainstModel {
    private static final String[] NAMES = {"a", "b", "c", "d", "ab", "aa", "z", "abcdefgh"};
    private static final String[] FACTS = {"h", "k", "hk", "a", "none"};

    public static void main(String[] args) {
        int runs = args.length > 0 && args[0].matches("[0-9]+") ? Integer.parseInt(args[0]) : 400;
        long calls = 0;
        Map<String, Integer> seen = new TreeMap<>();
        for (int run = 0; run < runs; run++) {
            Player player = new Player(run, seen);
            if (!player.play()) {
                System.exit(1);
            }
            calls += player.calls;
        }
        for (int i = 0; i < runs * 10; i++) {
            Player player = new Player(1000000 + i, seen);
            if (!player.playTexts()) {
                System.exit(1);
            }
            calls += player.calls;
        }
        System.out.println(runs + " runs, " + calls + " calls, all as the model answers");
        if (args.length > 1) {
            System.out.println(seen);
        }
    }

    // ---- the player: makes calls at random and compares

    private interface Call {
        Object answer();
    }

    private static final class Player {
        final Random random;
        final PayHouse house = new PayHouse();
        final Model model = new Model();
        final Map<String, Integer> seen;
        final int run;
        final List<String> told = new ArrayList<>();
        int calls = 0;
        boolean good = true;

        Player(int run, Map<String, Integer> seen) {
            this.run = run;
            this.seen = seen;
            random = new Random(run * 7919L + 17);
        }

        boolean play() {
            int start = random.nextInt(4);
            for (int i = 0; i < start; i++) {
                same("person()", house::person, model::person);
            }
            for (int i = pick(3); i >= 0; i--) {
                load();
            }
            for (int i = pick(8); i >= 0; i--) {
                tellSomething();
            }
            while (calls < 512 && good) {
                step();
            }
            return good;
        }

        /** Texts alone, most of them with faults. */
        boolean playTexts() {
            same("person()", house::person, model::person);
            for (int i = 0; i < 4 && good; i++) {
                String text = shuffled(new RuleMaker(random).rules());
                told.add("text " + text);
                type(text);
                same("load(0)", () -> house.load(0), () -> model.load(0));
                same("faultKind" + model.faultKind + "()", house::faultKind, () -> model.faultKind);
                if (!model.versions.isEmpty()) {
                    writeOut(model.versions.size() - 1);
                    same("errors()", house::errors, () -> 0);
                    for (String name : NAMES) {
                        same("value()", () -> house.value(0, number(name), 14, model.moment),
                                () -> model.value(0, number(name), 14, model.moment));
                    }
                }
            }
            return good;
        }

        String shuffled(String text) {
            String[] pieces = {"(", ")", "[", "]", "if ", " then ", " else ", "not ", "-", "min(", ",", ":", "1",
                "a", " or ", " and ", "<", "<=", "==", "=", ";", "bands(", "fact ", "last ", "year ", "pay ", "hold ",
                "5:3", ",7:20000", ",0:1,0:2", "((((", "))))", "[[[", "]]]", "----", "not not not ", "a=b;b=a;",
                "a=1;", "c=last c;", "d=d;", "if 1<2 then ", "1 else ", "part(1,", "0123456789", "abcdefghi", "?"};
            List<Token> tokens = tokensOf(text);
            List<String> parts = new ArrayList<>();
            for (int i = 0; i + 1 < tokens.size(); i++) {
                parts.add(text.substring(tokens.get(i).place, tokens.get(i + 1).place));
            }
            for (int i = pick(4); i > 0; i--) {
                int at = pick(parts.size() + 1);
                if (pick(3) > 0 || at >= parts.size()) {
                    parts.add(at, pieces[pick(pieces.length)]);
                } else if (pick(2) == 0) {
                    parts.remove(at);
                } else {
                    parts.set(at, pieces[pick(pieces.length)]);
                }
            }
            String all = String.join("", parts);
            return all.length() > 700 ? all.substring(0, 700) : all;
        }

        void same(String what, Call left, Call right) {
            calls++;
            told.add(what);
            Object got = of(left);
            Object due = of(right);
            String word = what.substring(0, what.indexOf('('));
            String form = due.toString().startsWith("throws") ? " " + due : "";
            seen.merge(word + form, 1, Integer::sum);
            if (!got.equals(due)) {
                good = false;
                for (String earlier : told) {
                    System.out.println(earlier);
                }
                System.out.println("run " + run + ": answered " + got + ", the model " + due);
            }
        }

        Object of(Call call) {
            try {
                return call.answer();
            } catch (RuntimeException e) {
                return "throws " + e.getClass().getSimpleName();
            }
        }

        int pick(int bound) {
            return random.nextInt(bound);
        }

        boolean rarely() {
            return pick(40) == 0;
        }

        int person() {
            return rarely() ? pick(9) - 1 : pick(Math.max(1, model.persons));
        }

        int month() {
            return rarely() ? pick(63) - 1 : pick(3) == 0 ? pick(60) : pick(Math.min(60, model.present + 3));
        }

        int moment() {
            return rarely() ? pick(model.moment + 3) - 1 : pick(3) > 0 ? model.moment : pick(model.moment + 1);
        }

        int runNumber() {
            return rarely() ? pick(95) - 1 : pick(Math.max(1, model.runs.size()));
        }

        int authority() {
            return rarely() ? pick(6) - 1 : pick(4);
        }

        long name() {
            if (rarely()) {
                long[] odd = {0, -1, 'A', 0x610061L, 0x6100L, number("if"), number("bands"), random.nextLong()};
                return odd[pick(odd.length)];
            }
            return number(NAMES[pick(NAMES.length)]);
        }

        long fact() {
            return rarely() ? name() : number(FACTS[pick(FACTS.length)]);
        }

        int told() {
            int[] some = {0, 1, -1, 5, 100, -100, 999, 123456, 1000000000, -1000000000};
            return rarely() ? random.nextInt() : pick(2) == 0 ? some[pick(some.length)] : pick(5000) - 500;
        }

        long amount() {
            return rarely() ? pick(3) - 1L + pick(2) * 1000000000L : 1 + pick(2000);
        }

        void type(String text) {
            for (int i = 0; i < text.length() && good; ) {
                int end = Math.min(text.length(), i + 8);
                long bytes = 0;
                for (; i < end; i++) {
                    bytes = bytes << 8 | text.charAt(i) & 255;
                }
                long typed = bytes;
                same("type(" + typed + ")", () -> house.type(typed), () -> model.type(typed));
            }
        }

        void step() {
            int kind = pick(100);
            if (kind < 6) {
                load();
            } else if (kind < 16) {
                askRules();
            } else if (kind < 34) {
                tellSomething();
            } else if (kind < 46) {
                askFacts();
            } else if (kind < 58) {
                makeRun();
            } else if (kind < 76) {
                askRuns();
            } else if (kind < 88) {
                payments();
            } else if (kind < 97) {
                askPayments();
            } else {
                askChecks();
            }
        }

        void load() {
            if (calls > 380) {
                return;
            }
            String text = new RuleMaker(random).rules();
            if (pick(5) == 0) {
                text = spoilt(text);
            }
            told.add("text " + text);
            type(text);
            int from = pick(3) == 0 ? month() : pick(2) * pick(8);
            same("load(" + from + ")", () -> house.load(from), () -> model.load(from));
            same("faultKind()", house::faultKind, () -> model.faultKind);
            if (!model.versions.isEmpty() && pick(2) == 0) {
                writeOut(pick(model.versions.size()));
            }
        }

        void writeOut(int version) {
            same("write(" + version + ")", () -> house.write(version), () -> model.write(version));
            StringBuilder all = new StringBuilder();
            for (int i = 0; i < model.output.length(); i++) {
                all.append((char) house.outputByte(i));
            }
            same("output()", all::toString, () -> model.output);
        }

        String spoilt(String text) {
            StringBuilder all = new StringBuilder(text);
            String signs = " ;=<+-*()[],:0123459aifno$?A\u00ff";
            for (int i = pick(3); i >= 0; i--) {
                int at = pick(all.length() + 1);
                int way = pick(3);
                if (way == 0 && at < all.length()) {
                    all.deleteCharAt(at);
                } else if (way == 1 && at < all.length()) {
                    all.setCharAt(at, signs.charAt(pick(signs.length())));
                } else {
                    all.insert(at, signs.charAt(pick(signs.length())));
                }
            }
            return pick(4) == 0 ? all.substring(0, pick(all.length() + 1)) : all.toString();
        }

        void askRules() {
            int person = person();
            long name = name();
            int month = month();
            int moment = moment();
            int version = rarely() ? pick(14) - 1 : pick(Math.max(1, model.versions.size()));
            int index = rarely() ? pick(20) - 2 : pick(5);
            long fact = fact();
            int factMonth = month();
            long value = told();
            int way = pick(9);
            if (way > 6 && !rarely() && model.hasPerson(person) && Model.named(name) && Model.month(month)) {
                index = pick(model.explained(person, name, month).size() + 1);
            }
            askRule(way, new long[] {person, name, month, moment, version, index, fact, factMonth, value});
        }

        void askRule(int way, long[] asked) {
            int person = (int) asked[0];
            long name = asked[1];
            int month = (int) asked[2];
            int moment = (int) asked[3];
            int version = (int) asked[4];
            int index = (int) asked[5];
            long fact = asked[6];
            int factMonth = (int) asked[7];
            long value = asked[8];
            switch (way) {
                case 0:
                    same("versionInForce(" + month + "," + moment, () -> house.versionInForce(month, moment),
                            () -> model.versionInForce(month, moment));
                    break;
                case 1:
                    same("definitions(" + version, () -> house.definitions(version),
                            () -> model.definitions(version));
                    break;
                case 2:
                    same("definedName(" + version + "," + index, () -> house.definedName(version, index),
                            () -> model.definedName(version, index));
                    break;
                case 3:
                    same("lineKind(" + version + "," + name, () -> house.lineKind(version, name),
                            () -> model.lineKind(version, name));
                    break;
                case 4:
                    same("value(" + person + "," + name + "," + month + "," + moment,
                            () -> house.value(person, name, month, moment),
                            () -> model.value(person, name, month, moment));
                    break;
                case 5:
                    same("valueIf(" + person + "," + name + "," + month + "," + fact + "," + factMonth + "," + value,
                            () -> house.valueIf(person, name, month, fact, factMonth, value),
                            () -> model.valueIf(person, name, month, fact, factMonth, value));
                    break;
                case 6:
                    same("explained(" + person + "," + name + "," + month,
                            () -> house.explained(person, name, month),
                            () -> model.explained(person, name, month).size());
                    break;
                case 7:
                    same("explainedMonth(" + person + "," + name + "," + month + "," + index,
                            () -> house.explainedMonth(person, name, month, index),
                            () -> model.explainedAt(person, name, month, index).month);
                    break;
                default:
                    same("explainedName(" + person + "," + name + "," + month + "," + index,
                            () -> house.explainedName(person, name, month, index),
                            () -> number(model.explainedAt(person, name, month, index).name));
            }
        }

        void tellSomething() {
            int person = person();
            long name = fact();
            int source = rarely() ? pick(5) - 1 : pick(3);
            int one = month();
            int other = month();
            int from = rarely() ? one : Math.min(one, other);
            int to = rarely() ? other : Math.max(one, other);
            int value = told();
            int moment = moment();
            int way = pick(10);
            if (way < 4) {
                same("tell(" + person + "," + name + "," + source + "," + from + "," + to + "," + value,
                        () -> house.tell(person, name, source, from, to, value),
                        () -> model.tell(person, name, source, from, to, value));
            } else if (way < 6) {
                same("withdraw(" + person + "," + name + "," + source + "," + from + "," + to,
                        () -> house.withdraw(person, name, source, from, to),
                        () -> model.withdraw(person, name, source, from, to));
            } else if (way < 8) {
                same("takeBack(" + moment, () -> house.takeBack(moment), () -> model.takeBack(moment));
            } else if (way < 9) {
                same("person()", house::person, model::person);
            } else if (calls < 420) {
                StringBuilder text = new StringBuilder();
                for (int i = pick(5); i >= 0; i--) {
                    text.append(pick(3) == 0 ? " " : "").append(person()).append(blanks()).append(FACTS[pick(4)]);
                    text.append(blanks()).append(pick(3)).append(' ').append(pick(10)).append(blanks()).append('-');
                    text.append(pick(50) + 9).append(blanks());
                    text.append(pick(3) == 0 ? "none" : "=" + blanks() + (pick(2) == 0 ? "-" : "") + pick(900));
                    text.append(blanks()).append(";");
                }
                String all = pick(4) == 0 ? spoilt(text.toString()) : text.toString();
                told.add("text " + all);
                type(all);
                same("tellText()", house::tellText, model::tellText);
            }
        }

        String blanks() {
            return pick(4) == 0 ? " " : "";
        }

        void askFacts() {
            int person = person();
            long name = fact();
            int month = month();
            int moment = moment();
            int later = moment();
            switch (pick(6)) {
                case 0:
                    same("moment()", house::moment, () -> model.moment);
                    break;
                case 1:
                    same("factAt(" + person + "," + name + "," + month + "," + moment,
                            () -> house.factAt(person, name, month, moment),
                            () -> model.factAt(person, name, month, moment));
                    break;
                case 2:
                    same("sourceAt(" + person + "," + name + "," + month + "," + moment,
                            () -> house.sourceAt(person, name, month, moment),
                            () -> model.sourceAt(person, name, month, moment));
                    break;
                case 3:
                    same("pieces(" + person + "," + name + "," + moment,
                            () -> house.pieces(person, name, moment), () -> model.pieces(person, name, moment));
                    break;
                case 4:
                    same("changes(" + person + "," + name + "," + month,
                            () -> house.changes(person, name, month), () -> model.changes(person, name, month));
                    break;
                default:
                    same("firstChange(" + person + "," + moment + "," + later,
                            () -> house.firstChange(person, moment, later),
                            () -> model.firstChange(person, moment, later));
            }
        }

        void makeRun() {
            int person = person();
            int months = rarely() ? pick(63) - 1 : pick(3) == 0 ? pick(60) : 59;
            int way = pick(10);
            if (way < 6) {
                same("run()", house::run, model::run);
            } else if (way < 9) {
                same("correct(" + person, () -> house.correct(person), () -> model.correct(person));
            } else {
                same("setReach(" + months, () -> house.setReach(months), () -> model.setReach(months));
            }
        }

        void askRuns() {
            int person = person();
            int run = runNumber();
            boolean exists = run >= 0 && run < model.runs.size() && person >= 0 && person < 6;
            int size = exists ? model.runs.get(run).slips.get(person).size() : 0;
            int index = rarely() ? pick(50) - 2 : pick(size + 1);
            int what = rarely() ? pick(7) - 1 : pick(4);
            long name = name();
            int kind = rarely() ? pick(12) - 1 : pick(9);
            int month = month();
            switch (pick(8)) {
                case 0:
                    same("presentMonth()", house::presentMonth, () -> model.present);
                    break;
                case 1:
                    same("entries(" + run + "," + person, () -> house.entries(run, person),
                            () -> model.slip(run, person).size());
                    break;
                case 2:
                case 3:
                    same("entryAt(" + run + "," + person + "," + index + "," + what,
                            () -> house.entryAt(run, person, index, what),
                            () -> model.entryAt(run, person, index, what));
                    break;
                case 4:
                    same("net(" + run + "," + person, () -> house.net(run, person),
                            () -> model.net(model.slip(run, person), 60));
                    break;
                case 5:
                    same("lateNet(" + run + "," + person, () -> house.lateNet(run, person),
                            () -> model.lateNet(run, person));
                    break;
                case 6:
                    same("settled(" + person + "," + name + "," + kind + "," + month,
                            () -> house.settled(person, name, kind, month),
                            () -> model.settled(person, name, kind, month));
                    break;
                default:
                    same("again(" + run + "," + person, () -> house.again(run, person),
                            () -> model.again(run, person));
            }
        }

        void payments() {
            int person = person();
            long amount = pick(2) == 0 ? amount() : 1 + pick(40);
            int priority = rarely() ? pick(13) - 1 : pick(3);
            long most = amount();
            int run = runNumber();
            int authority = authority();
            switch (pick(6)) {
                case 0:
                    long least = pick(3) == 0 ? 0 : amount;
                    same("setProtected(" + person + "," + least, () -> house.setProtected(person, least),
                            () -> model.setProtected(person, least));
                    break;
                case 1:
                    same("withhold(" + person + "," + priority + "," + amount + "," + most,
                            () -> house.withhold(person, priority, amount, most),
                            () -> model.withhold(person, priority, amount, most));
                    break;
                case 2:
                    same("advance(" + person + "," + amount, () -> house.advance(person, amount),
                            () -> model.advance(person, amount));
                    break;
                case 3:
                    same("comeBack(" + run + "," + person, () -> house.comeBack(run, person),
                            () -> model.comeBack(run, person));
                    break;
                case 4:
                    same("file(" + authority, () -> house.file(authority), () -> model.file(authority));
                    break;
                default:
                    same("remit(" + authority + "," + amount, () -> house.remit(authority, amount),
                            () -> model.remit(authority, amount));
            }
        }

        void askPayments() {
            int person = person();
            int run = runNumber();
            int authority = authority();
            int filing = rarely() ? pick(23) - 1 : pick(3);
            int month = month();
            int withholding = rarely() ? pick(10) - 1 : pick(3);
            int account = rarely() ? pick(8) - 1 : pick(5);
            switch (pick(6)) {
                case 0:
                    same("restOf(" + withholding, () -> house.restOf(withholding),
                            () -> model.restOf(withholding));
                    break;
                case 1:
                    same("claim(" + person, () -> house.claim(person), () -> model.claim(person));
                    break;
                case 2:
                    same("payout(" + run + "," + person, () -> house.payout(run, person),
                            () -> model.payout(run, person));
                    break;
                case 3:
                    same("owed(" + authority, () -> house.owed(authority), () -> model.owed(authority));
                    break;
                case 4:
                    same("filed(" + authority + "," + filing + "," + month,
                            () -> house.filed(authority, filing, month),
                            () -> model.filed(authority, filing, month));
                    break;
                default:
                    same("balance(" + account, () -> house.balance(account), () -> model.balance(account));
            }
        }

        void askChecks() {
            int run = runNumber();
            int index = pick(300) - 2;
            switch (pick(5)) {
                case 0:
                    same("checksum()", house::checksum, model::checksum);
                    break;
                case 1:
                    same("meanNet(" + run, () -> house.meanNet(run), () -> model.meanNet(run));
                    break;
                case 2:
                    same("lateShare()", house::lateShare, model::lateShare);
                    break;
                case 3:
                    same("outputByte(" + index, () -> house.outputByte(index), () -> model.outputByte(index));
                    break;
                default:
                    same("errors()", house::errors, () -> 0);
            }
        }
    }

    private static long number(String name) {
        long all = 0;
        for (int i = 0; i < name.length(); i++) {
            all = all * 256 + name.charAt(i);
        }
        return all;
    }

    // ---- rules at random

    private static final class RuleMaker {
        final Random random;
        final List<String> defined = new ArrayList<>();
        final List<String> all = new ArrayList<>();
        int room;

        RuleMaker(Random random) {
            this.random = random;
        }

        String rules() {
            int size = 10 + random.nextInt(240);
            StringBuilder text = new StringBuilder();
            int count = 1 + random.nextInt(6);
            List<String> names = new ArrayList<>(List.of(NAMES));
            java.util.Collections.shuffle(names, random);
            all.addAll(names.subList(0, count));
            for (int i = 0; i < count; i++) {
                int line = random.nextInt(5);
                if (line < 2) {
                    text.append("pay ");
                } else if (line < 4) {
                    text.append(line == 2 ? "hold" : "cost").append(blank()).append(random.nextInt(6) == 0 ? "0" : "");
                    text.append(random.nextInt(4)).append(blank());
                }
                room = size / count;
                text.append(all.get(i)).append(blank()).append('=').append(value(6)).append(';').append(blank());
                defined.add(all.get(i));
            }
            return text.length() > 700 ? rulesOfOne() : text.toString();
        }

        String rulesOfOne() {
            return "pay a=fact h;";
        }

        String blank() {
            return random.nextInt(8) == 0 ? " " : "";
        }

        int pick(int bound) {
            return random.nextInt(bound);
        }

        String value(int depth) {
            room -= 6;
            if (depth > 0 && room > 0 && pick(4) == 0) {
                return "if " + test(depth - 1) + " then " + value(depth - 1) + " else " + value(depth - 1);
            }
            return sum(depth);
        }

        String test(int depth) {
            String one = one(depth);
            for (int i = 0; i < 3 && room > 0 && pick(3) == 0; i++) {
                one += (pick(2) == 0 ? " or " : " and ") + one(depth);
            }
            return one;
        }

        String one(int depth) {
            if (depth > 0 && room > 0 && pick(4) == 0) {
                return pick(2) == 0 ? "not " + one(depth - 1) : "[" + test(depth - 1) + "]";
            }
            String[] signs = {"<", "<=", "=="};
            return sum(depth) + blank() + signs[pick(3)] + blank() + sum(depth);
        }

        String sum(int depth) {
            String one = unit(depth);
            for (int i = 0; i < 4 && room > 0 && pick(2) == 0; i++) {
                String[] signs = {"+", "-", "*"};
                one += blank() + signs[pick(3)] + blank() + unit(depth);
            }
            return one;
        }

        String unit(int depth) {
            room -= 5;
            int way = depth > 0 && room > 0 ? pick(14) : pick(7);
            switch (way) {
                case 0:
                    return pick(5) == 0 ? "00" + pick(20) : "" + (pick(4) == 0 ? pick(1000000000) : pick(30));
                case 1:
                    if (pick(40) == 0) {
                        return all.get(pick(all.size()));
                    }
                    return defined.isEmpty() ? "month" : defined.get(pick(defined.size()));
                case 2:
                    return "last " + all.get(pick(all.size()));
                case 3:
                    return "year " + all.get(pick(all.size()));
                case 4:
                    return pick(60) == 0 ? NAMES[pick(NAMES.length)] : "month";
                case 5:
                case 6:
                    return "fact " + FACTS[pick(FACTS.length)];
                case 7:
                    return "-" + unit(depth - 1);
                case 8:
                    return "(" + value(depth - 1) + ")";
                case 9:
                    return "min(" + value(depth - 1) + "," + value(depth - 1) + ")";
                case 10:
                    return "max(" + value(depth - 1) + "," + blank() + value(depth - 1) + ")";
                case 11:
                    return "part(" + value(depth - 1) + "," + value(depth - 1) + "," + value(depth - 1) + ")";
                default:
                    return bands(depth);
            }
        }

        String bands(int depth) {
            StringBuilder text = new StringBuilder("bands(").append(value(depth - 1));
            int limit = 0;
            for (int i = pick(4); i > 0; i--) {
                limit += pick(60) == 0 ? 0 : 1 + pick(200);
                text.append(',').append(blank()).append(limit).append(':').append(pick(pick(50) == 0 ? 20000 : 10001));
            }
            return text.append(',').append(pick(10001)).append(blank()).append(')').toString();
        }
    }

    // ---- the model

    private static final class Fault extends RuntimeException {
        private static final long serialVersionUID = 1;
        final int place;

        Fault(int place) {
            this.place = place;
        }
    }

    private static final class Token {
        final String text;
        final int place;
        final char kind; // l letters, d digits, s sign, x none, e the end

        Token(String text, int place, char kind) {
            this.text = text;
            this.place = place;
            this.kind = kind;
        }
    }

    private static final class Node {
        final String op;
        final List<Node> parts = new ArrayList<>();
        final List<Long> numbers = new ArrayList<>();
        String name;

        Node(String op, Node... some) {
            this.op = op;
            parts.addAll(List.of(some));
        }
    }

    private static final class Definition {
        String name;
        int place;
        int kind;
        Node value;
    }

    private static final class Rules {
        int number;
        int month;
        int moment;
        List<Definition> definitions = new ArrayList<>();
        String written;

        Definition find(String name) {
            for (Definition one : definitions) {
                if (one.name.equals(name)) {
                    return one;
                }
            }
            return null;
        }
    }

    private static final class Told {
        int person;
        String name;
        int source;
        int from;
        int to;
        Integer value;
        int moment;
        Told takesBack;
    }

    private record Asked(int month, String name) implements Comparable<Asked> {
        public int compareTo(Asked other) {
            return month != other.month ? Integer.compare(month, other.month) : name.compareTo(other.name);
        }
    }

    private record Line(String name, int kind) implements Comparable<Line> {
        public int compareTo(Line other) {
            return name.equals(other.name) ? Integer.compare(kind, other.kind) : name.compareTo(other.name);
        }
    }

    private record Key(int person, int month, Line line) {
    }

    private record Entry(int month, Line line, long difference) {
    }

    private static final class Made {
        int moment;
        int persons;
        int first;
        int last;
        int corrected;
        Map<Key, Long> settledBefore;
        List<List<Entry>> slips = new ArrayList<>();
        long[] payouts = new long[6];
        boolean[] back = new boolean[6];
    }

    private static final class Held {
        int person;
        int priority;
        long rest;
        long most;
    }

    private static final Set<String> WORDS = Set.of("pay", "hold", "cost", "if", "then", "else", "or", "and",
            "not", "fact", "last", "year", "month", "min", "max", "part", "bands");

    private static List<Token> tokensOf(String text) {
        List<Token> tokens = new ArrayList<>();
        java.util.regex.Pattern pattern = java.util.regex.Pattern.compile(
                "([a-z]+)|([0-9]+)|(<=|==|[;=<+\\-*()\\[\\],:])|( )|(.)", java.util.regex.Pattern.DOTALL);
        java.util.regex.Matcher matcher = pattern.matcher(text);
        while (matcher.find()) {
            String found = matcher.group();
            if (matcher.group(1) != null) {
                tokens.add(new Token(found, matcher.start(), found.length() > 8 ? 'x' : 'l'));
            } else if (matcher.group(2) != null) {
                tokens.add(new Token(found, matcher.start(), found.length() > 9 ? 'x' : 'd'));
            } else if (matcher.group(4) == null) {
                tokens.add(new Token(found, matcher.start(), matcher.group(3) != null ? 's' : 'x'));
            }
        }
        tokens.add(new Token("", text.length(), 'e'));
        return tokens;
    }

    /** The grammar as it stands in the document, over trees. */
    private static final class Grammar {
        final List<Token> tokens;
        int at = 0;
        int second = Integer.MAX_VALUE;
        final List<Definition> definitions = new ArrayList<>();
        final List<Token> names = new ArrayList<>();

        Grammar(String text) {
            tokens = tokensOf(text);
        }

        Token next() {
            return tokens.get(at);
        }

        boolean sees(String text) {
            return next().kind != 'x' && next().kind != 'e' && next().text.equals(text);
        }

        Token take(boolean stands) {
            if (!stands) {
                throw new Fault(next().place);
            }
            return tokens.get(at++);
        }

        void take(String text) {
            take(sees(text));
        }

        int open(int opened, String text) {
            take(sees(text) && opened < 10);
            return opened + 1;
        }

        boolean seesName() {
            return next().kind == 'l' && !WORDS.contains(next().text);
        }

        void rules() {
            while (next().kind != 'e') {
                Definition one = new Definition();
                one.kind = 9;
                if (sees("pay")) {
                    take("pay");
                    one.kind = 0;
                } else if (sees("hold") || sees("cost")) {
                    int base = take(true).text.equals("hold") ? 1 : 5;
                    Token digit = take(next().kind == 'd' && Long.parseLong(next().text) <= 3);
                    one.kind = base + Integer.parseInt(digit.text);
                }
                Token name = take(seesName() && definitions.size() < 16);
                one.name = name.text;
                one.place = name.place;
                for (Definition earlier : definitions) {
                    if (earlier.name.equals(one.name)) {
                        second = Math.min(second, one.place);
                    }
                }
                definitions.add(one);
                take("=");
                one.value = value(0);
                take(";");
            }
        }

        Node value(int opened) {
            if (!sees("if")) {
                return sum(opened);
            }
            int inside = open(opened, "if");
            Node test = test(inside);
            take("then");
            Node then = value(inside);
            take("else");
            return new Node("if", test, then, value(inside));
        }

        Node test(int opened) {
            Node left = all(opened);
            while (sees("or")) {
                take("or");
                left = new Node("or", left, all(opened));
            }
            return left;
        }

        Node all(int opened) {
            Node left = one(opened);
            while (sees("and")) {
                take("and");
                left = new Node("and", left, one(opened));
            }
            return left;
        }

        Node one(int opened) {
            if (sees("not")) {
                return new Node("not", one(open(opened, "not")));
            }
            if (sees("[")) {
                Node test = test(open(opened, "["));
                take("]");
                return test;
            }
            Node left = sum(opened);
            Token sign = take(sees("<") || sees("<=") || sees("=="));
            return new Node(sign.text, left, sum(opened));
        }

        Node sum(int opened) {
            Node left = term(opened);
            while (sees("+") || sees("-")) {
                Token sign = take(true);
                left = new Node(sign.text, left, term(opened));
            }
            return left;
        }

        Node term(int opened) {
            Node left = unit(opened);
            while (sees("*")) {
                take("*");
                left = new Node("*", left, unit(opened));
            }
            return left;
        }

        Node unit(int opened) {
            Token token = next();
            if (token.kind == 'd') {
                return number("number");
            }
            if (seesName()) {
                return named("name");
            }
            if (sees("fact") || sees("last") || sees("year")) {
                take(true);
                return named(token.text);
            }
            if (sees("month")) {
                take(true);
                return new Node("month");
            }
            if (sees("-")) {
                return new Node("minus", unit(open(opened, "-")));
            }
            if (sees("(")) {
                Node inside = value(open(opened, "("));
                take(")");
                return inside;
            }
            if (sees("min") || sees("max") || sees("part")) {
                take(true);
                int inside = open(opened, "(");
                Node node = new Node(token.text, value(inside));
                for (int i = token.text.equals("part") ? 2 : 1; i > 0; i--) {
                    take(",");
                    node.parts.add(value(inside));
                }
                take(")");
                return node;
            }
            take("bands");
            return bands(opened);
        }

        Node number(String op) {
            Node node = new Node(op);
            node.numbers.add(Long.parseLong(take(next().kind == 'd').text));
            return node;
        }

        Node named(String op) {
            Token name = take(seesName());
            if (!op.equals("fact")) {
                names.add(name);
            }
            Node node = new Node(op);
            node.name = name.text;
            return node;
        }

        Node bands(int opened) {
            Node node = new Node("bands", value(open(opened, "(")));
            List<Integer> places = new ArrayList<>();
            do {
                take(",");
                places.add(next().place);
                node.numbers.add(number("").numbers.get(0));
                if (sees(":")) {
                    take(":");
                    places.add(next().place);
                    node.numbers.add(number("").numbers.get(0));
                } else {
                    take(")");
                    break;
                }
            } while (true);
            int size = node.numbers.size();
            for (int i = 0; i < size; i++) {
                boolean rate = i == size - 1 || i % 2 == 1;
                if (rate && node.numbers.get(i) > 10000
                        || !rate && i > 0 && node.numbers.get(i) <= node.numbers.get(i - 2)) {
                    second = Math.min(second, places.get(i));
                }
            }
            return node;
        }

        int undefined() {
            int place = second;
            for (Token name : names) {
                boolean found = false;
                for (Definition one : definitions) {
                    found |= one.name.equals(name.text);
                }
                if (!found) {
                    place = Math.min(place, name.place);
                }
            }
            return place;
        }

        int circular() {
            int place = Integer.MAX_VALUE;
            for (Definition one : definitions) {
                if (reaches(one.value, one.name, new TreeSet<>())) {
                    place = Math.min(place, one.place);
                }
            }
            return place;
        }

        boolean reaches(Node node, String name, Set<String> seen) {
            if (node.op.equals("name")) {
                if (node.name.equals(name)) {
                    return true;
                }
                if (seen.add(node.name)) {
                    for (Definition one : definitions) {
                        if (one.name.equals(node.name) && reaches(one.value, name, seen)) {
                            return true;
                        }
                    }
                }
            }
            for (Node part : node.parts) {
                if (reaches(part, name, seen)) {
                    return true;
                }
            }
            return false;
        }

        String written() {
            StringBuilder all = new StringBuilder();
            boolean before = false;
            for (Token token : tokens) {
                boolean plain = token.kind == 'l' || token.kind == 'd';
                if (plain && before) {
                    all.append(' ');
                }
                all.append(token.kind == 'd' ? "" + Long.parseLong(token.text) : token.text);
                before = plain;
            }
            return all.toString();
        }
    }

    /** One working out of values: for a person, as of a moment, with one fact supposed or none. */
    private static final class Working {
        static final BigInteger LIMIT = BigInteger.TEN.pow(14);
        final Model model;
        final int person;
        final int moment;
        Asked supposed;
        long supposedValue;
        final TreeSet<Asked> asked = new TreeSet<>();
        final Map<Asked, BigInteger> known = new HashMap<>();

        Working(Model model, int person, int moment) {
            this.model = model;
            this.person = person;
            this.moment = moment;
        }

        BigInteger clamped(BigInteger number) {
            return number.min(LIMIT).max(LIMIT.negate());
        }

        BigInteger named(String name, int month) {
            Rules rules = month < 0 ? null : model.inForce(month, moment);
            Definition one = rules == null ? null : rules.find(name);
            if (one == null) {
                return BigInteger.ZERO;
            }
            Asked cell = new Asked(month, name);
            BigInteger value = known.get(cell);
            if (value == null) {
                value = work(one.value, month);
                known.put(cell, value);
            }
            return value;
        }

        boolean test(Node node, int month) {
            switch (node.op) {
                case "or":
                    return test(node.parts.get(0), month) || test(node.parts.get(1), month);
                case "and":
                    return test(node.parts.get(0), month) && test(node.parts.get(1), month);
                case "not":
                    return !test(node.parts.get(0), month);
                default:
                    int order = work(node.parts.get(0), month).compareTo(work(node.parts.get(1), month));
                    return node.op.equals("<") ? order < 0 : node.op.equals("<=") ? order <= 0 : order == 0;
            }
        }

        BigInteger work(Node node, int month) {
            switch (node.op) {
                case "number":
                    return BigInteger.valueOf(node.numbers.get(0));
                case "month":
                    return BigInteger.valueOf(month);
                case "name":
                    return named(node.name, month);
                case "last":
                    return named(node.name, month - 1);
                case "year":
                    BigInteger sum = BigInteger.ZERO;
                    for (int m = month / 12 * 12; m < month; m++) {
                        sum = clamped(sum.add(named(node.name, m)));
                    }
                    return sum;
                case "fact":
                    Asked ask = new Asked(month, node.name);
                    asked.add(ask);
                    if (ask.equals(supposed)) {
                        return BigInteger.valueOf(supposedValue);
                    }
                    Told told = model.fact(person, node.name, month, moment);
                    return BigInteger.valueOf(told == null ? 0 : told.value);
                case "if":
                    return work(node.parts.get(test(node.parts.get(0), month) ? 1 : 2), month);
                default:
                    break;
            }
            List<BigInteger> parts = new ArrayList<>();
            for (Node part : node.parts) {
                parts.add(work(part, month));
            }
            BigInteger one = parts.get(0);
            BigInteger two = parts.size() > 1 ? parts.get(1) : null;
            switch (node.op) {
                case "minus":
                    return one.negate();
                case "+":
                    return clamped(one.add(two));
                case "-":
                    return clamped(one.subtract(two));
                case "*":
                    return clamped(one.multiply(two));
                case "min":
                    return one.min(two);
                case "max":
                    return one.max(two);
                case "part":
                    return part(clamped(one.multiply(two)), parts.get(2));
                default:
                    return bands(one, node.numbers);
            }
        }

        BigInteger part(BigInteger product, BigInteger divisor) {
            if (divisor.signum() <= 0) {
                return BigInteger.ZERO;
            }
            BigInteger[] both = product.divideAndRemainder(divisor);
            BigInteger down = both[1].signum() < 0 ? both[0].subtract(BigInteger.ONE) : both[0];
            BigInteger rest = product.subtract(down.multiply(divisor));
            return rest.shiftLeft(1).compareTo(divisor) >= 0 ? down.add(BigInteger.ONE) : down;
        }

        BigInteger bands(BigInteger amount, List<Long> numbers) {
            if (amount.signum() <= 0) {
                return BigInteger.ZERO;
            }
            BigInteger sum = BigInteger.ZERO;
            BigInteger from = BigInteger.ZERO;
            for (int i = 0; i < numbers.size(); i += 2) {
                boolean last = i == numbers.size() - 1;
                BigInteger to = last ? amount : amount.min(BigInteger.valueOf(numbers.get(i)));
                BigInteger rate = BigInteger.valueOf(numbers.get(last ? i : i + 1));
                sum = sum.add(to.subtract(from).max(BigInteger.ZERO).multiply(rate));
                from = from.max(to);
            }
            return sum.divide(BigInteger.valueOf(10000));
        }
    }

    private static final class Model {
        String text = "";
        String output = "";
        int moment = 0;
        int present = 0;
        int reach = 59;
        int faultKind = 0;
        int persons = 0;
        final List<Rules> versions = new ArrayList<>();
        final List<Told> statements = new ArrayList<>();
        final List<Made> runs = new ArrayList<>();
        final List<Held> held = new ArrayList<>();
        final Map<Key, Long> settled = new HashMap<>();
        final TreeSet<Line> lines = new TreeSet<>();
        final long[] claims = new long[6];
        final long[] waiting = new long[6];
        final long[] shielded = new long[6];
        final long[] remitted = new long[4];
        long bank = 0;
        final List<List<long[]>> filings = List.of(new ArrayList<>(), new ArrayList<>(), new ArrayList<>(),
                new ArrayList<>());

        static void index(boolean... exists) {
            for (boolean one : exists) {
                if (!one) {
                    throw new IndexOutOfBoundsException();
                }
            }
        }

        static void argument(boolean... fits) {
            for (boolean one : fits) {
                if (!one) {
                    throw new IllegalArgumentException();
                }
            }
        }

        static void state(boolean fits) {
            if (!fits) {
                throw new IllegalStateException();
            }
        }

        static boolean month(int month) {
            return month >= 0 && month <= 59;
        }

        boolean hasPerson(int person) {
            return person >= 0 && person < persons;
        }

        boolean hasMoment(int asOf) {
            return asOf >= 0 && asOf <= moment;
        }

        static String nameOf(long number) {
            StringBuilder all = new StringBuilder();
            for (int shift = 56; shift >= 0; shift -= 8) {
                all.append((char) (number >>> shift & 255));
            }
            String name = all.toString().replaceAll("^\0+", "");
            return name.matches("[a-z]{1,8}") && !WORDS.contains(name) ? name : null;
        }

        static boolean named(long number) {
            return nameOf(number) != null;
        }

        int type(long bytes) {
            StringBuilder more = new StringBuilder(text);
            for (int shift = 56; shift >= 0; shift -= 8) {
                if ((bytes >>> shift & 255) != 0) {
                    more.append((char) (bytes >>> shift & 255));
                }
            }
            state(more.length() <= 700);
            text = more.toString();
            return text.length();
        }

        int outputByte(int index) {
            return index >= 0 && index < output.length() ? output.charAt(index) : -1;
        }

        int load(int month) {
            index(month(month));
            state(versions.size() < 12);
            Grammar grammar = new Grammar(text);
            text = "";
            try {
                grammar.rules();
            } catch (Fault fault) {
                faultKind = 1;
                return -3 - fault.place;
            }
            if (grammar.undefined() != Integer.MAX_VALUE) {
                faultKind = 2;
                return -3 - grammar.undefined();
            }
            if (grammar.circular() != Integer.MAX_VALUE) {
                faultKind = 3;
                return -3 - grammar.circular();
            }
            faultKind = 0;
            Rules rules = new Rules();
            rules.number = versions.size();
            rules.month = month;
            rules.moment = ++moment;
            rules.definitions = grammar.definitions;
            rules.written = grammar.written();
            versions.add(rules);
            return rules.number;
        }

        Rules inForce(int month, int asOf) {
            Rules best = null;
            for (Rules one : versions) {
                if (one.moment <= asOf && one.month <= month) {
                    if (best == null || one.month > best.month || one.month == best.month) {
                        best = one;
                    }
                }
            }
            return best;
        }

        int versionInForce(int month, int asOf) {
            index(month(month));
            argument(hasMoment(asOf));
            Rules rules = inForce(month, asOf);
            return rules == null ? -1 : rules.number;
        }

        int definitions(int version) {
            index(version >= 0 && version < versions.size());
            return versions.get(version).definitions.size();
        }

        long definedName(int version, int index) {
            int count = definitions(version);
            if (index < 0 || index >= count) {
                throw new NoSuchElementException();
            }
            return number(versions.get(version).definitions.get(index).name);
        }

        int lineKind(int version, long name) {
            index(version >= 0 && version < versions.size());
            argument(named(name));
            Definition one = versions.get(version).find(nameOf(name));
            return one == null ? -1 : one.kind;
        }

        int write(int version) {
            index(version >= 0 && version < versions.size());
            output = versions.get(version).written;
            return output.length();
        }

        long value(int person, long name, int month, int asOf) {
            index(hasPerson(person), month(month));
            argument(named(name), hasMoment(asOf));
            return new Working(this, person, asOf).named(nameOf(name), month).longValueExact();
        }

        long valueIf(int person, long name, int month, long fact, int factMonth, long value) {
            index(hasPerson(person), month(month), month(factMonth));
            argument(named(name), named(fact), Math.abs(value) <= 1000000000 && value != Long.MIN_VALUE);
            Working working = new Working(this, person, moment);
            working.supposed = new Asked(factMonth, nameOf(fact));
            working.supposedValue = value;
            return working.named(nameOf(name), month).longValueExact();
        }

        List<Asked> explained(int person, long name, int month) {
            index(hasPerson(person), month(month));
            argument(named(name));
            Working working = new Working(this, person, moment);
            working.named(nameOf(name), month);
            return new ArrayList<>(working.asked);
        }

        Asked explainedAt(int person, long name, int month, int index) {
            List<Asked> all = explained(person, name, month);
            if (index < 0 || index >= all.size()) {
                throw new NoSuchElementException();
            }
            return all.get(index);
        }

        int person() {
            state(persons < 6);
            return persons++;
        }

        Told statement(int person, long name, int source, int from, int to) {
            index(hasPerson(person), month(from), month(to));
            argument(named(name), source >= 0 && source <= 2, from <= to);
            Told told = new Told();
            told.person = person;
            told.name = nameOf(name);
            told.source = source;
            told.from = from;
            told.to = to;
            return told;
        }

        int make(Told told) {
            state(statements.size() < 120);
            told.moment = ++moment;
            statements.add(told);
            return moment;
        }

        int tell(int person, long name, int source, int from, int to, int value) {
            Told told = statement(person, name, source, from, to);
            argument(value >= -1000000000 && value <= 1000000000);
            told.value = value;
            return make(told);
        }

        int withdraw(int person, long name, int source, int from, int to) {
            return make(statement(person, name, source, from, to));
        }

        int takeBack(int from) {
            Told concerned = null;
            for (Told told : statements) {
                if (told.moment == from && told.takesBack == null) {
                    concerned = told;
                }
            }
            argument(concerned != null);
            for (Told told : statements) {
                state(told.takesBack != concerned);
            }
            Told back = new Told();
            back.takesBack = concerned;
            return make(back);
        }

        int tellText() {
            List<Token> tokens = tokensOf(text);
            text = "";
            List<Told> made = new ArrayList<>();
            try {
                for (int at = 0; tokens.get(at).kind != 'e'; ) {
                    Told told = new Told();
                    at = readTold(tokens, at, told, made.size());
                    made.add(told);
                }
            } catch (Fault fault) {
                return -3 - fault.place;
            }
            made.forEach(this::make);
            return made.size();
        }

        static int takeNumber(Token token, long least, long most) {
            if (token.kind != 'd' || Long.parseLong(token.text) < least || Long.parseLong(token.text) > most) {
                throw new Fault(token.place);
            }
            return Integer.parseInt(token.text);
        }

        static void takeSign(Token token, String sign) {
            if (token.kind != 's' || !token.text.equals(sign)) {
                throw new Fault(token.place);
            }
        }

        int readTold(List<Token> tokens, int start, Told told, int ahead) {
            int at = start;
            if (statements.size() + ahead == 120) {
                throw new Fault(tokens.get(at).place);
            }
            told.person = takeNumber(tokens.get(at++), 0, persons - 1);
            Token name = tokens.get(at++);
            if (name.kind != 'l' || WORDS.contains(name.text) || name.text.equals("none")) {
                throw new Fault(name.place);
            }
            told.name = name.text;
            told.source = takeNumber(tokens.get(at++), 0, 2);
            told.from = takeNumber(tokens.get(at++), 0, 59);
            takeSign(tokens.get(at++), "-");
            told.to = takeNumber(tokens.get(at++), told.from, 59);
            Token way = tokens.get(at++);
            if (way.kind != 'l' || !way.text.equals("none")) {
                takeSign(way, "=");
                boolean minus = tokens.get(at).kind == 's' && tokens.get(at).text.equals("-");
                at += minus ? 1 : 0;
                int value = takeNumber(tokens.get(at++), 0, 999999999);
                told.value = minus ? -value : value;
            }
            takeSign(tokens.get(at++), ";");
            return at;
        }

        Told fact(int person, String name, int month, int asOf) {
            Told best = null;
            for (int source = 0; source <= 2; source++) {
                Told latest = null;
                for (Told told : statements) {
                    boolean counts = told.takesBack == null && told.moment <= asOf && told.person == person
                            && told.name.equals(name) && told.source == source && told.from <= month
                            && told.to >= month;
                    for (Told other : statements) {
                        counts &= !(other.takesBack == told && other.moment <= asOf);
                    }
                    latest = counts ? told : latest;
                }
                best = latest != null && latest.value != null ? latest : best;
            }
            return best;
        }

        Integer worth(int person, String name, int month, int asOf) {
            Told told = fact(person, name, month, asOf);
            return told == null ? null : told.value;
        }

        void needFact(int person, long name, int month, int asOf) {
            index(hasPerson(person), month(month));
            argument(named(name), hasMoment(asOf));
        }

        long factAt(int person, long name, int month, int asOf) {
            needFact(person, name, month, asOf);
            Told told = fact(person, nameOf(name), month, asOf);
            return told == null ? 0 : told.value;
        }

        int sourceAt(int person, long name, int month, int asOf) {
            needFact(person, name, month, asOf);
            Told told = fact(person, nameOf(name), month, asOf);
            return told == null ? -1 : told.source;
        }

        int pieces(int person, long name, int asOf) {
            needFact(person, name, 0, asOf);
            int count = 1;
            for (int month = 1; month < 60; month++) {
                count += java.util.Objects.equals(worth(person, nameOf(name), month, asOf),
                        worth(person, nameOf(name), month - 1, asOf)) ? 0 : 1;
            }
            return count;
        }

        int changes(int person, long name, int month) {
            needFact(person, name, month, 0);
            int count = 0;
            for (int asOf = 1; asOf <= moment; asOf++) {
                count += java.util.Objects.equals(worth(person, nameOf(name), month, asOf),
                        worth(person, nameOf(name), month, asOf - 1)) ? 0 : 1;
            }
            return count;
        }

        int firstChange(int person, int one, int later) {
            index(hasPerson(person));
            argument(hasMoment(one), hasMoment(later));
            Set<String> names = new TreeSet<>();
            for (Told told : statements) {
                if (told.takesBack == null) {
                    names.add(told.name);
                }
            }
            for (int month = 0; month < 60; month++) {
                for (String name : names) {
                    if (!java.util.Objects.equals(worth(person, name, month, one),
                            worth(person, name, month, later))) {
                        return month;
                    }
                }
            }
            return -1;
        }

        int setReach(int months) {
            argument(months >= 0 && months <= 59);
            int before = reach;
            reach = months;
            return before;
        }

        int run() {
            state(present < 60 && runs.size() < 90);
            Made made = made(-1, present);
            for (int person = 0; person < persons; person++) {
                made.slips.set(person, settle(made, person, settled));
            }
            for (int person = 0; person < persons; person++) {
                pay(made, person);
            }
            present++;
            return runs.size() - 1;
        }

        int correct(int person) {
            index(hasPerson(person));
            state(present > 0 && runs.size() < 90);
            Made made = made(person, present - 1);
            made.slips.set(person, settle(made, person, settled));
            pay(made, person);
            return runs.size() - 1;
        }

        Made made(int corrected, int last) {
            Made made = new Made();
            made.moment = moment;
            made.persons = persons;
            made.corrected = corrected;
            made.first = Math.max(0, present - reach);
            made.last = last;
            made.settledBefore = new HashMap<>(settled);
            for (int i = 0; i < 6; i++) {
                made.slips.add(new ArrayList<>());
            }
            runs.add(made);
            return made;
        }

        List<Entry> settle(Made made, int person, Map<Key, Long> amounts) {
            List<Entry> slip = new ArrayList<>();
            Working working = new Working(this, person, made.moment);
            for (int month = made.first; month <= made.last; month++) {
                Rules rules = inForce(month, made.moment);
                TreeSet<Line> concerned = new TreeSet<>();
                for (Map.Entry<Key, Long> one : amounts.entrySet()) {
                    if (one.getKey().person == person && one.getKey().month == month && one.getValue() != 0) {
                        concerned.add(one.getKey().line);
                    }
                }
                if (rules != null) {
                    for (Definition one : rules.definitions) {
                        if (one.kind != 9) {
                            concerned.add(new Line(one.name, one.kind));
                        }
                    }
                }
                for (Line line : concerned) {
                    Definition one = rules == null ? null : rules.find(line.name);
                    boolean inVersion = one != null && one.kind == line.kind;
                    long due = inVersion ? working.named(line.name, month).longValueExact() : 0;
                    Key key = new Key(person, month, line);
                    long before = amounts.getOrDefault(key, 0L);
                    if (due != before) {
                        slip.add(new Entry(month, line, due - before));
                        amounts.put(key, due);
                    }
                }
            }
            return slip;
        }

        void pay(Made made, int person) {
            long x = net(made.slips.get(person), 60) + waiting[person];
            waiting[person] = 0;
            if (x < 0) {
                claims[person] += -x;
                return;
            }
            if (x - shielded[person] > 0) {
                long back = Math.min(claims[person], x - shielded[person]);
                claims[person] -= back;
                x -= back;
            }
            if (made.corrected < 0) {
                for (int priority = 0; priority <= 9; priority++) {
                    x -= withheld(person, priority, x - shielded[person]);
                }
            }
            made.payouts[person] = x;
            bank -= x;
        }

        long withheld(int person, int priority, long there) {
            List<Held> sharing = new ArrayList<>();
            long wanted = 0;
            for (Held one : held) {
                if (one.person == person && one.priority == priority) {
                    sharing.add(one);
                    wanted += Math.min(one.rest, one.most);
                }
            }
            if (there <= 0) {
                return 0;
            }
            long paid = 0;
            List<Long> gets = new ArrayList<>();
            for (Held one : sharing) {
                long want = Math.min(one.rest, one.most);
                long get = wanted <= there ? want : BigInteger.valueOf(want).multiply(BigInteger.valueOf(there))
                        .divide(BigInteger.valueOf(wanted)).longValueExact();
                gets.add(get);
                paid += get;
            }
            for (int i = 0; i < sharing.size(); i++) {
                Held one = sharing.get(i);
                long get = gets.get(i);
                if (wanted > there && paid < there && get < Math.min(one.rest, one.most)) {
                    get++;
                    paid++;
                }
                one.rest -= get;
                bank -= get;
            }
            return paid;
        }

        List<Entry> slip(int run, int person) {
            index(run >= 0 && run < runs.size(), hasPerson(person));
            return runs.get(run).slips.get(person);
        }

        long entryAt(int run, int person, int index, int what) {
            List<Entry> slip = slip(run, person);
            argument(what >= 0 && what <= 3);
            if (index < 0 || index >= slip.size()) {
                throw new NoSuchElementException();
            }
            Entry entry = slip.get(index);
            return what == 0 ? entry.month : what == 1 ? number(entry.line.name)
                    : what == 2 ? entry.line.kind : entry.difference;
        }

        long net(List<Entry> slip, int before) {
            long sum = 0;
            for (Entry entry : slip) {
                if (entry.month < before) {
                    sum += entry.line.kind == 0 ? entry.difference : entry.line.kind < 5 ? -entry.difference : 0;
                }
            }
            return sum;
        }

        long lateNet(int run, int person) {
            return net(slip(run, person), runs.get(run).last);
        }

        long settled(int person, long name, int kind, int month) {
            index(hasPerson(person), month(month));
            argument(named(name), kind >= 0 && kind <= 8);
            return settled.getOrDefault(new Key(person, month, new Line(nameOf(name), kind)), 0L);
        }

        int again(int run, int person) {
            List<Entry> slip = slip(run, person);
            Made made = runs.get(run);
            if (person >= made.persons || made.corrected >= 0 && made.corrected != person) {
                return 0;
            }
            return settle(made, person, new HashMap<>(made.settledBefore)).equals(slip) ? 0 : -1;
        }

        long setProtected(int person, long amount) {
            index(hasPerson(person));
            argument(amount >= 0 && amount <= 1000000000);
            long before = shielded[person];
            shielded[person] = amount;
            return before;
        }

        static boolean fits(long amount) {
            return amount >= 1 && amount <= 1000000000;
        }

        int withhold(int person, int priority, long amount, long most) {
            index(hasPerson(person));
            argument(priority >= 0 && priority <= 9, fits(amount), fits(most));
            state(held.size() < 8);
            Held one = new Held();
            one.person = person;
            one.priority = priority;
            one.rest = amount;
            one.most = most;
            held.add(one);
            return held.size() - 1;
        }

        long restOf(int withholding) {
            index(withholding >= 0 && withholding < held.size());
            return held.get(withholding).rest;
        }

        long advance(int person, long amount) {
            index(hasPerson(person));
            argument(fits(amount));
            bank -= amount;
            return claims[person] += amount;
        }

        long claim(int person) {
            index(hasPerson(person));
            return claims[person];
        }

        long payout(int run, int person) {
            slip(run, person);
            return runs.get(run).payouts[person];
        }

        long comeBack(int run, int person) {
            long amount = payout(run, person);
            state(amount != 0 && !runs.get(run).back[person]);
            runs.get(run).back[person] = true;
            bank += amount;
            return waiting[person] += amount;
        }

        static boolean concerns(int authority, int kind) {
            return kind == 1 + authority || kind == 5 + authority;
        }

        long owed(int authority) {
            index(authority >= 0 && authority <= 3);
            long sum = -remitted[authority];
            for (Map.Entry<Key, Long> one : settled.entrySet()) {
                sum += concerns(authority, one.getKey().line.kind) ? one.getValue() : 0;
            }
            return sum;
        }

        int file(int authority) {
            index(authority >= 0 && authority <= 3);
            List<long[]> earlier = filings.get(authority);
            state(earlier.size() < 20);
            long[] filing = new long[60];
            for (Map.Entry<Key, Long> one : settled.entrySet()) {
                filing[one.getKey().month] += concerns(authority, one.getKey().line.kind) ? one.getValue() : 0;
            }
            for (long[] other : earlier) {
                for (int month = 0; month < 60; month++) {
                    filing[month] -= other[month];
                }
            }
            earlier.add(filing);
            return earlier.size();
        }

        long filed(int authority, int filing, int month) {
            index(authority >= 0 && authority <= 3, month(month));
            if (filing < 0 || filing >= filings.get(authority).size()) {
                throw new NoSuchElementException();
            }
            return filings.get(authority).get(filing)[month];
        }

        long remit(int authority, long amount) {
            index(authority >= 0 && authority <= 3);
            argument(fits(amount));
            state(owed(authority) >= amount);
            remitted[authority] += amount;
            bank -= amount;
            return owed(authority);
        }

        long balance(int account) {
            argument(account >= 0 && account <= 4);
            long sum = 0;
            switch (account) {
                case 0:
                    return bank;
                case 1:
                    for (Map.Entry<Key, Long> one : settled.entrySet()) {
                        int kind = one.getKey().line.kind;
                        sum += kind == 0 || kind >= 5 ? one.getValue() : 0;
                    }
                    return sum;
                case 2:
                    return -owed(0) - owed(1) - owed(2) - owed(3);
                case 3:
                    for (long claim : claims) {
                        sum += claim;
                    }
                    return sum;
                default:
                    for (long amount : waiting) {
                        sum -= amount;
                    }
                    return sum;
            }
        }

        long checksum() {
            List<Long> numbers = new ArrayList<>(List.of((long) moment, (long) present));
            for (int person = 0; person < persons; person++) {
                long pay = 0;
                for (Map.Entry<Key, Long> one : settled.entrySet()) {
                    Key key = one.getKey();
                    pay += key.person == person && key.line.kind == 0 ? one.getValue() : 0;
                }
                numbers.addAll(List.of(claims[person], waiting[person], pay));
            }
            for (Held one : held) {
                numbers.add(one.rest);
            }
            numbers.add(bank);
            long c = 0;
            for (long number : numbers) {
                c = 31 * c + number;
            }
            return c;
        }

        double meanNet(int run) {
            index(run >= 0 && run < runs.size());
            Made made = runs.get(run);
            long sum = 0;
            for (int person = 0; person < made.persons; person++) {
                sum += net(made.slips.get(person), 60);
            }
            return made.persons == 0 ? 0.0 : (double) sum / (double) made.persons;
        }

        float lateShare() {
            int late = 0;
            int all = 0;
            for (Made made : runs) {
                for (List<Entry> slip : made.slips) {
                    for (Entry entry : slip) {
                        all++;
                        late += entry.month < made.last ? 1 : 0;
                    }
                }
            }
            return all == 0 ? 0.0f : (float) late / (float) all;
        }
    }
}
