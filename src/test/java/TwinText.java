import java.util.ArrayList;
import java.util.HashMap;
import java.util.HashSet;
import java.util.List;
import java.util.Map;
import java.util.Set;
import java.util.regex.Matcher;
import java.util.regex.Pattern;

/**
 * A text as the twin reads it: whether a token can stand where it does is asked of the document's grammar itself (by
 * all the ways in which a sentence of it can begin so); the other faults are looked for one by one; a clause is cut in
 * two at the operator that comes last of the weakest.
 */
final class TwinText {
    interface Clause {
        long value(long[] names);
    }

    record Token(String kind, String text, int start) {
    }

    record Item(String left, int rule, int dot, int origin) {
    }

    static final List<String> SORTS = List.of("member", "levy", "back", "stay", "cap", "proof", "mark");
    static final List<String> NAMES = List.of("wages", "heads", "paid", "month", "hours", "price", "age", "trade",
        "lack");
    static final Pattern TOKEN = Pattern.compile("[a-zA-Z]+|[0-9]+|<=|>=|[<>=#+\\-*/(),;]|[^ \\n]");
    static final Map<String, String[][]> GRAMMAR = new HashMap<>();

    static {
        rule("text", "", "clause text");
        rule("clause", "member either ;", "levy sum ;", "back sum ;", "stay sum ;", "cap sum ;", "proof number ;",
            "mark number ;");
        rule("either", "both", "either or both");
        rule("both", "ask", "both and ask");
        rule("ask", "not ask", "sum < sum", "sum <= sum", "sum > sum", "sum >= sum", "sum = sum", "sum # sum");
        rule("sum", "product", "sum + product", "sum - product");
        rule("product", "one", "product * one", "product / one");
        rule("one", "number", "name", "( sum )", "- one", "min ( sum , sum )", "max ( sum , sum )");
    }

    int fault = 0;
    int place = -1;
    final Map<Integer, Clause> clauses = new HashMap<>();

    private static void rule(String left, String... rights) {
        String[][] all = new String[rights.length][];
        for (int i = 0; i < rights.length; i++) {
            all[i] = rights[i].isEmpty() ? new String[0] : rights[i].split(" ");
        }
        GRAMMAR.put(left, all);
    }

    TwinText(String text) {
        List<Token> tokens = cut(text);
        findFault(tokens, text.length());
        if (fault == 0) {
            int from = 0;
            for (int i = 0; i < tokens.size(); i++) {
                if (tokens.get(i).text.equals(";")) {
                    int sort = SORTS.indexOf(tokens.get(from).text);
                    clauses.put(sort, clause(tokens.subList(from + 1, i)));
                    from = i + 1;
                }
            }
        }
    }

    private static List<Token> cut(String text) {
        List<Token> tokens = new ArrayList<>();
        Matcher m = TOKEN.matcher(text);
        while (m.find()) {
            String t = m.group();
            String kind = NAMES.contains(t) ? "name" : t.matches("[0-9]+") ? "number"
                : GRAMMAR.containsKey(t) || t.equals("name") || t.equals("number") ? "none" : t;
            tokens.add(new Token(kind, t, m.start()));
        }
        return tokens;
    }

    private void findFault(List<Token> tokens, int length) {
        List<Set<Item>> sets = new ArrayList<>();
        Set<Item> first = new HashSet<>();
        for (int r = 0; r < GRAMMAR.get("text").length; r++) {
            first.add(new Item("text", r, 0, 0));
        }
        sets.add(first);
        close(sets, 0);
        List<Character> open = new ArrayList<>();
        Set<String> sorts = new HashSet<>();
        String sort = "";
        for (int i = 0; i < tokens.size(); i++) {
            Token t = tokens.get(i);
            Token ahead = i == 0 ? new Token(";", ";", 0) : tokens.get(i - 1);
            if (ahead.text.equals(";")) {
                sort = t.text;
                open.clear();
            }
            place = t.start;
            sets.add(over(sets.get(i), t.kind));
            if (sets.get(i + 1).isEmpty()) {
                fault = 1;
                return;
            }
            close(sets, i + 1);
            if (t.kind.equals("number") && isTooMuch(t.text, sort)) {
                fault = 2;
                return;
            }
            if (goOpen(open, t, ahead) > 8) {
                fault = 3;
                return;
            }
            if (ahead.text.equals(";") && !sorts.add(sort)) {
                fault = 4;
                return;
            }
            if (List.of("member", "levy", "cap").contains(sort) && NAMES.indexOf(t.text) > 3) {
                fault = 5;
                return;
            }
        }
        place = length;
        for (int r = 0; r < GRAMMAR.get("text").length; r++) {
            if (sets.get(tokens.size()).contains(new Item("text", r, GRAMMAR.get("text")[r].length, 0))) {
                place = -1;
                return;
            }
        }
        fault = 1;
    }

    private static boolean isTooMuch(String number, String sort) {
        int most = sort.equals("proof") ? 60 : sort.equals("mark") ? 100 : 9999;
        return new java.math.BigInteger(number).compareTo(java.math.BigInteger.valueOf(most)) > 0;
    }

    /** What is open around this token, it with it. */
    private static int goOpen(List<Character> open, Token t, Token ahead) {
        if (t.text.equals("(")) {
            open.add('(');
        } else if (t.text.equals("not")) {
            open.add('n');
        } else if (t.text.equals("-") && !List.of("number", "name", ")").contains(ahead.kind)) {
            open.add('-');
        } else if (t.text.equals("and") || t.text.equals("or")) {
            open.removeIf(c -> c == 'n');
        } else if (t.kind.equals("number") || t.kind.equals("name") || t.text.equals(")")) {
            int depth = open.size();
            if (t.text.equals(")")) {
                open.subList(open.lastIndexOf('('), depth).clear();
            }
            while (!open.isEmpty() && open.get(open.size() - 1) == '-') {
                open.remove(open.size() - 1);
            }
            return 0;
        } else {
            return 0;
        }
        return open.size();
    }

    private static String next(Item item) {
        String[] right = GRAMMAR.get(item.left)[item.rule];
        return item.dot < right.length ? right[item.dot] : null;
    }

    private static Set<Item> over(Set<Item> set, String kind) {
        Set<Item> moved = new HashSet<>();
        for (Item item : set) {
            if (kind.equals(next(item)) && !GRAMMAR.containsKey(kind)) {
                moved.add(new Item(item.left, item.rule, item.dot + 1, item.origin));
            }
        }
        return moved;
    }

    private static void close(List<Set<Item>> sets, int at) {
        boolean grows = true;
        while (grows) {
            List<Item> more = new ArrayList<>();
            for (Item item : sets.get(at)) {
                String next = next(item);
                if (next == null) {
                    for (Item up : sets.get(item.origin)) {
                        if (item.left.equals(next(up))) {
                            more.add(new Item(up.left, up.rule, up.dot + 1, up.origin));
                        }
                    }
                } else if (GRAMMAR.containsKey(next)) {
                    for (int r = 0; r < GRAMMAR.get(next).length; r++) {
                        more.add(new Item(next, r, 0, at));
                    }
                }
            }
            grows = sets.get(at).addAll(more);
        }
    }

    private static long cutOff(long v) {
        return v > 1000000000 ? 1000000000 : v < -1000000000 ? -1000000000 : v;
    }

    /** The last place of one of these outside brackets where it joins two, or -1. */
    private static int last(List<Token> t, String... ofThese) {
        int depth = 0;
        for (int i = t.size() - 1; i >= 0; i--) {
            String text = t.get(i).text;
            depth += text.equals(")") ? 1 : text.equals("(") ? -1 : 0;
            boolean joinsTwo = !text.equals("-")
                || i > 0 && (List.of("number", "name", ")").contains(t.get(i - 1).kind));
            if (depth == 0 && joinsTwo && List.of(ofThese).contains(text)) {
                return i;
            }
        }
        return -1;
    }

    private static Clause clause(List<Token> t) {
        int at = last(t, "or");
        if (at < 0) {
            at = last(t, "and");
        }
        if (at < 0 && t.get(0).text.equals("not")) {
            Clause of = clause(t.subList(1, t.size()));
            return n -> of.value(n) == 0 ? 1 : 0;
        }
        if (at < 0) {
            at = last(t, "<", "<=", ">", ">=", "=", "#");
        }
        if (at < 0) {
            at = last(t, "+", "-");
        }
        if (at < 0) {
            at = last(t, "*", "/");
        }
        if (at >= 0) {
            return joinTwo(t.get(at).text, clause(t.subList(0, at)), clause(t.subList(at + 1, t.size())));
        }
        Token one = t.get(0);
        if (one.text.equals("-")) {
            Clause of = clause(t.subList(1, t.size()));
            return n -> -of.value(n);
        }
        if (one.text.equals("(")) {
            return clause(t.subList(1, t.size() - 1));
        }
        if (one.text.equals("min") || one.text.equals("max")) {
            List<Token> inner = t.subList(2, t.size() - 1);
            int comma = last(inner, ",");
            Clause a = clause(inner.subList(0, comma));
            Clause b = clause(inner.subList(comma + 1, inner.size()));
            return one.text.equals("min") ? n -> Math.min(a.value(n), b.value(n))
                : n -> Math.max(a.value(n), b.value(n));
        }
        if (one.kind.equals("number")) {
            long number = Long.parseLong(one.text);
            return n -> number;
        }
        int name = NAMES.indexOf(one.text);
        return n -> n[name];
    }

    private static Clause joinTwo(String operator, Clause a, Clause b) {
        switch (operator) {
            case "or": return n -> Math.max(a.value(n), b.value(n));
            case "and": return n -> Math.min(a.value(n), b.value(n));
            case "<": return n -> a.value(n) < b.value(n) ? 1 : 0;
            case "<=": return n -> a.value(n) <= b.value(n) ? 1 : 0;
            case ">": return n -> a.value(n) > b.value(n) ? 1 : 0;
            case ">=": return n -> a.value(n) >= b.value(n) ? 1 : 0;
            case "=": return n -> a.value(n) == b.value(n) ? 1 : 0;
            case "#": return n -> a.value(n) != b.value(n) ? 1 : 0;
            case "+": return n -> cutOff(a.value(n) + b.value(n));
            case "-": return n -> cutOff(a.value(n) - b.value(n));
            case "*": return n -> cutOff(a.value(n) * b.value(n));
            default: return n -> b.value(n) == 0 ? 0 : cutOff(a.value(n) / b.value(n));
        }
    }
}
