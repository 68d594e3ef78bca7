import java.util.ArrayList;
import java.util.List;
import java.util.Map;

/** The grammar of both languages as a tree of nodes, for Model. */
final class ModelReader {
    interface Node {
        /** A TEST is 1 or 0. */
        long value(Map<String, Integer> told);
    }

    static final class Clause {
        String verb;
        Node first, second, test;
        int times = 1;
    }

    private static final class Stop extends RuntimeException {
        Stop() {
            super(null, null, false, false);
        }
    }

    private record Token(String text, int place) {
    }

    private final List<Token> tokens = new ArrayList<>();
    private final boolean ordering;
    private int i = 0;
    private int parts = 0;
    int fault = -1;

    ModelReader(String text, boolean ordering) {
        this.ordering = ordering;
        int p = 0;
        while (p < text.length()) {
            int q = p + 1;
            char c = text.charAt(p);
            if (c >= 'a' && c <= 'z') while (q < text.length() && text.charAt(q) >= 'a' && text.charAt(q) <= 'z') q++;
            if (c >= '0' && c <= '9') while (q < text.length() && text.charAt(q) >= '0' && text.charAt(q) <= '9') q++;
            if (c != ' ') tokens.add(new Token(text.substring(p, q), p));
            p = q;
        }
        tokens.add(new Token("", text.length()));
    }

    List<Clause> read() {
        List<Clause> clauses = new ArrayList<>();
        try {
            clauses.add(clause());
            while (is(";")) {
                i++;
                if (clauses.size() == 12) throw new Stop();
                clauses.add(clause());
            }
            want(is(""));
            return clauses;
        } catch (Stop e) {
            fault = tokens.get(i).place;
            return null;
        }
    }

    private boolean is(String text) {
        return tokens.get(i).text.equals(text);
    }

    private boolean isOneOf(String... texts) {
        for (String t : texts) if (is(t)) return true;
        return false;
    }

    private void want(boolean so) {
        if (!so) throw new Stop();
    }

    private void take(String text) {
        want(is(text));
        i++;
    }

    private String taken() {
        return tokens.get(i++).text;
    }

    private int number(int least, int most) {
        String t = tokens.get(i).text;
        want(t.matches("[0-9]+"));
        java.math.BigInteger n = new java.math.BigInteger(t);
        want(n.bitLength() < 20 && n.intValue() >= least && n.intValue() <= most);
        i++;
        return n.intValue();
    }

    private Clause clause() {
        Clause c = new Clause();
        if (ordering) want(isOneOf("launch", "sail", "fish", "hang", "tide"));
        else want(isOneOf("catches", "slams", "fits", "bars"));
        c.verb = taken();
        if (!List.of("fits", "bars", "tide").contains(c.verb)) c.first = sum(0);
        if (c.verb.equals("sail")) {
            take("by");
            c.second = sum(0);
        }
        if (c.verb.equals("hang")) {
            take("in");
            c.second = sum(0);
        }
        if (ordering && is("times")) {
            i++;
            c.times = number(1, 20);
        }
        if (is("if")) {
            i++;
            c.test = test(0);
        }
        return c;
    }

    private Node test(int depth) {
        Node a = both(depth);
        while (is("or")) {
            i++;
            Node left = a;
            Node right = both(depth);
            a = told -> left.value(told) == 1 ? 1 : right.value(told);
        }
        return a;
    }

    private Node both(int depth) {
        Node a = plain(depth);
        while (is("and")) {
            i++;
            Node left = a;
            Node right = plain(depth);
            a = told -> left.value(told) == 0 ? 0 : right.value(told);
        }
        return a;
    }

    private Node plain(int depth) {
        if (is("not")) {
            i++;
            Node of = plain(depth);
            return told -> 1 - of.value(told);
        }
        if (is("(")) {
            want(depth < 8);
            i++;
            Node of = test(depth + 1);
            take(")");
            return of;
        }
        Node a = sum(depth);
        want(isOneOf("<", ">", "="));
        String sign = taken();
        Node b = sum(depth);
        return told -> {
            long x = a.value(told);
            long y = b.value(told);
            return (sign.equals("<") ? x < y : sign.equals(">") ? x > y : x == y) ? 1 : 0;
        };
    }

    private Node sum(int depth) {
        Node a = term(depth);
        while (isOneOf("+", "-")) a = join(taken(), a, term(depth));
        return a;
    }

    private Node term(int depth) {
        Node a = part(depth);
        while (isOneOf("*", "/", "%")) a = join(taken(), a, part(depth));
        return a;
    }

    private static Node join(String sign, Node a, Node b) {
        return told -> {
            long x = a.value(told);
            long y = b.value(told);
            if ("/%".contains(sign) && y == 0) throw new Model.Broken();
            long z = switch (sign) {
                case "+" -> x + y;
                case "-" -> x - y;
                case "*" -> x * y;
                case "/" -> x / y;
                default -> x % y;
            };
            if (Math.abs(z) > 1_000_000_000) throw new Model.Broken();
            return z;
        };
    }

    private Node part(int depth) {
        if (is("[")) {
            want(depth < 8);
            i++;
            Node of = sum(depth + 1);
            take("]");
            return of;
        }
        want(parts < 50);
        String word = tokens.get(i).text;
        if (word.matches("[0-9]+")) {
            long n = number(0, 1000);
            parts++;
            return told -> n;
        }
        if (ordering && isOneOf("at", "house", "catch")) {
            i++;
            word += number(0, 7);
        } else {
            if (ordering) want(isOneOf("day", "done", "latest", "open"));
            else want(isOneOf("door", "wide", "wood", "home", "house", "size", "cell", "fish", "catch", "day", "mood"));
            i++;
        }
        parts++;
        String name = word;
        return told -> told.get(name);
    }
}
