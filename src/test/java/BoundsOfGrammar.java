import java.util.ArrayList;
import java.util.HashMap;
import java.util.LinkedHashSet;
import java.util.List;
import java.util.Map;
import java.util.Set;

/**
 * Which tokens can stand where: the grammars are read from the document itself, and tell for each row of tokens
 * the first one that no text of the grammar goes on with (by Earley's way). What load() and tellText() find must
 * be the same place.
 */
public final class BoundsOfGrammar {
    private static final String[] SIGNS = {"<=", "==", "<", "=", ";", "+", "-", "*", "(", ")", "[", "]", ",", ":"};

    public static void main(String[] args) {
        rules();
        facts();
        Bounds.finish(args);
    }

    private static void rules() {
        Bounds.sentence("kind 1, a token that cannot stand where it stands, or a text that ends too early");
        Grammar grammar = new Grammar(Bounds.between("rules = {", "``` The words are"), "");
        List<String> tokens = new ArrayList<>(List.of("1", "a", "?", "00", "4", "abcdefghi", "1234567890"));
        tokens.addAll(List.of(Bounds.WORDS));
        tokens.addAll(List.of(SIGNS));
        String[] texts = {
            "", "a = 1 ;", "pay a = 1 ;", "hold 1 a = 2 ; cost 02 b = 3 ; pay c = 4 ;",
            "a = if 1 < 2 then 3 else 4 ;",
            "a = if not 1 <= 2 and [ 3 == 4 or not not 5 < 6 ] or 7 < 8 then if 1 < 2 then 3 else 4 else ( 5 ) ;",
            "a = 1 + 2 - 3 * 4 * - 5 ; b = - - a ;",
            "a = fact a + last a * year a - month ;",
            "a = min ( 1 , if 1 < 2 then 3 else 4 ) + max ( 1 , 2 ) ;",
            "a = part ( 1 , 2 , 3 ) - ( 4 ) ;",
            "a = bands ( 1 , 2 ) + bands ( fact b , 1 : 2 , 2 : 3 , 4 ) ;",
        };
        for (String text : texts) {
            variants(grammar, text, tokens, true);
        }
        for (String one : tokens) {
            for (String two : tokens) {
                compare(grammar, List.of("a", "=", one, two), true);
                compare(grammar, List.of(one, two), true);
                for (String three : tokens) {
                    compare(grammar, List.of("a", "=", one, two, three), true);
                }
            }
        }
    }

    private static void facts() {
        Bounds.sentence("facts = { number name number number \"-\" number ( \"=\" [ \"-\" ] number | \"none\" ) \";\" }");
        // The word none is no name in the text of facts.
        Grammar grammar = new Grammar(Bounds.between("facts = {", ": the person, the name, the source"), "none");
        List<String> tokens = new ArrayList<>(List.of("0", "a", "none", "?", "00", "abcdefghi", "0000000000"));
        tokens.addAll(List.of(Bounds.WORDS));
        tokens.addAll(List.of(SIGNS));
        String[] texts = {"", "0 a 0 0 - 0 = 0 ;", "0 a 0 0 - 0 = - 0 ;", "0 a 0 0 - 0 none ;",
            "0 a 0 0 - 0 none ; 0 b 0 0 - 0 = 1 ; 0 a 0 0 - 0 = - 2 ;"};
        for (String text : texts) {
            variants(grammar, text, tokens, false);
        }
        for (String one : tokens) {
            for (String two : tokens) {
                compare(grammar, List.of(one, two), false);
                compare(grammar, List.of("0", "a", "0", "0", "-", "0", one, two), false);
                compare(grammar, List.of("0", "a", "0", "0", "-", "0", "=", one, two), false);
            }
        }
    }

    /** The text with each token put out, put in another's place, or put in, and the text cut off. */
    private static void variants(Grammar grammar, String text, List<String> tokens, boolean rules) {
        List<String> row = text.isEmpty() ? new ArrayList<>() : new ArrayList<>(List.of(text.split(" ")));
        compare(grammar, row, rules);
        for (int i = 0; i <= row.size(); i++) {
            compare(grammar, row.subList(0, i), rules);
            for (String token : tokens) {
                List<String> more = new ArrayList<>(row);
                more.add(i, token);
                compare(grammar, more, rules);
                if (i < row.size()) {
                    List<String> other = new ArrayList<>(row);
                    other.set(i, token);
                    compare(grammar, other, rules);
                }
            }
            if (i < row.size()) {
                List<String> less = new ArrayList<>(row);
                less.remove(i);
                compare(grammar, less, rules);
            }
        }
    }

    private static void compare(Grammar grammar, List<String> row, boolean rules) {
        // A blank keeps the tokens apart, and one more at the end shows the length of the text.
        StringBuilder text = new StringBuilder();
        List<Integer> places = new ArrayList<>();
        for (String token : row) {
            places.add(text.length());
            text.append(token).append(' ');
        }
        places.add(text.length());
        int stuck = grammar.firstThatCannotStand(row);
        PayHouse x = Bounds.people(1);
        if (rules) {
            int answer = Bounds.loaded(x, 0, text.toString());
            if (stuck >= 0) {
                Bounds.same("load of " + text, answer, -3 - places.get(stuck));
                Bounds.same("the kind of " + text, x.faultKind(), 1);
            } else {
                Bounds.truth("no fault of kind 1 in " + text, x.faultKind() != 1);
            }
        } else {
            int answer = Bounds.told(x, text.toString());
            if (stuck >= 0) {
                Bounds.same("tellText of " + text, answer, -3 - places.get(stuck));
            } else {
                Bounds.truth("no fault in " + text, answer >= 0);
            }
        }
    }

    /** A grammar as the document writes it. */
    private static final class Grammar {
        private final Map<String, List<List<String>>> productions = new HashMap<>();
        private final String first;
        private final String[] signs;
        private final String wordMore;
        private int at;
        private int made;

        Grammar(String text, String wordMore) {
            this.wordMore = wordMore;
            signs = text.trim().split("\\s+");
            first = signs[0];
            while (at < signs.length) {
                String name = signs[at];
                at += 2;
                productions.put(name, choices());
            }
        }

        private boolean nameOfNext() {
            return at + 1 < signs.length && signs[at + 1].equals("=");
        }

        private List<List<String>> choices() {
            List<List<String>> all = new ArrayList<>();
            all.add(row());
            while (at < signs.length && signs[at].equals("|")) {
                at++;
                all.add(row());
            }
            return all;
        }

        private List<String> row() {
            List<String> row = new ArrayList<>();
            while (at < signs.length && !"|})]".contains(signs[at]) && !nameOfNext()) {
                String sign = signs[at];
                at++;
                if ("{([".contains(sign)) {
                    List<List<String>> inside = choices();
                    at++;
                    row.add(made(sign, inside));
                } else {
                    row.add(sign);
                }
            }
            return row;
        }

        private String made(String bracket, List<List<String>> inside) {
            made++;
            String name = "made" + made;
            List<List<String>> all = new ArrayList<>();
            for (List<String> row : inside) {
                List<String> longer = new ArrayList<>(row);
                if (bracket.equals("{")) {
                    longer.add(name);
                }
                all.add(longer);
            }
            if (!bracket.equals("(")) {
                all.add(new ArrayList<>());
            }
            productions.put(name, all);
            return name;
        }

        private record Item(String name, List<String> row, int dot, int origin) {
            String next() {
                return dot < row.size() ? row.get(dot) : null;
            }

            Item moved() {
                return new Item(name, row, dot + 1, origin);
            }
        }

        /** The place of the first token that cannot stand, the number of all if more are missing, or -1. */
        int firstThatCannotStand(List<String> tokens) {
            List<Set<Item>> columns = new ArrayList<>();
            Set<Item> column = new LinkedHashSet<>();
            for (List<String> row : productions.get(first)) {
                column.add(new Item(first, row, 0, 0));
            }
            for (int i = 0; i <= tokens.size(); i++) {
                columns.add(column);
                close(columns, i);
                if (i == tokens.size()) {
                    break;
                }
                Set<Item> following = new LinkedHashSet<>();
                for (Item item : column) {
                    if (item.next() != null && stands(item.next(), tokens.get(i))) {
                        following.add(item.moved());
                    }
                }
                if (following.isEmpty()) {
                    return i;
                }
                column = following;
            }
            for (Item item : column) {
                if (item.name.equals(first) && item.origin == 0 && item.next() == null) {
                    return -1;
                }
            }
            return tokens.size();
        }

        // Done until nothing is new, since a part can be empty.
        private void close(List<Set<Item>> columns, int i) {
            Set<Item> column = columns.get(i);
            int before = -1;
            while (before != column.size()) {
                before = column.size();
                for (Item item : new ArrayList<>(column)) {
                    if (item.next() == null) {
                        for (Item waiting : new ArrayList<>(columns.get(item.origin))) {
                            if (item.name.equals(waiting.next())) {
                                column.add(waiting.moved());
                            }
                        }
                    } else if (productions.containsKey(item.next())) {
                        for (List<String> row : productions.get(item.next())) {
                            column.add(new Item(item.next(), row, 0, i));
                        }
                    }
                }
            }
        }

        private boolean stands(String terminal, String token) {
            boolean digits = token.matches("[0-9]{1,9}");
            switch (terminal) {
                case "number":
                    return digits;
                case "digit":
                    return digits && Integer.parseInt(token) <= 3;
                case "name":
                    return token.matches("[a-z]{1,8}") && !List.of(Bounds.WORDS).contains(token)
                            && !token.equals(wordMore);
                default:
                    return terminal.equals("\"" + token + "\"");
            }
        }
    }
}
