import java.util.ArrayDeque;
import java.util.ArrayList;
import java.util.Arrays;
import java.util.Deque;
import java.util.HashMap;
import java.util.HashSet;
import java.util.List;
import java.util.Map;
import java.util.Set;

/** A ROAD read another way than BreathRoad does: all tokens first, then a stack of what must still come. */
final class ModelText {
    static final List<String> OWN = Arrays.asList(("tunnel gap at weighs holder breath laughs thinks gives worth tires"
        + " seen fine held long made last beaten if or and not all min max").split(" "));
    private static final List<String> FACTS = Arrays.asList("held", "long", "made", "last", "beaten", "breath", "gap");

    /** Where it breaks, -1 for a whole one, is not always where it begins. */
    record Token(String text, int place, int broken) {
        boolean isName() {
            return !text.isEmpty() && Character.isLetter(text.charAt(0)) && !OWN.contains(text);
        }

        boolean isNumber() {
            return !text.isEmpty() && Character.isDigit(text.charAt(0));
        }

        int value() {
            return Integer.parseInt(text);
        }
    }

    static final class Tunnel {
        String name;
        int gap;
        final List<Integer> lengths = new ArrayList<>();
        final List<Integer> weights = new ArrayList<>();
    }

    static final class Holder {
        String name;
        int breath;
        int laughs;
        int gives = 60;
        final Map<String, Integer> thinks = new HashMap<>();
    }

    int fault = 0;
    int place = -1;
    int statements = 0;
    int seen = 0;
    int fine = 0;
    final List<Tunnel> tunnels = new ArrayList<>();
    final List<Holder> holders = new ArrayList<>();
    final Map<String, List<Token>> sums = new HashMap<>();

    private final Set<String> names = new HashSet<>();
    private final List<Token> tokens = new ArrayList<>();
    private final Deque<String> stack = new ArrayDeque<>();
    private int next = 0;
    private int open = 0;
    private String sum = null;
    private Holder thinker = null;
    private Tunnel thought = null;

    ModelText(String text) {
        split(text);
        stack.push("TEXT");
        while (fault == 0 && !stack.isEmpty()) {
            Token token = tokens.get(next);
            boolean mayEnd = stack.peek().equals("TEXT");
            if (mayEnd && statements == 80 && token.place() < text.length()) {
                fail(6, token);
            } else if (token.broken() >= 0) {
                fault = 1;
                place = token.broken();
            } else {
                step(stack.pop(), token);
            }
        }
    }

    private static boolean isLetter(char c) {
        return c >= 'a' && c <= 'z';
    }

    private static boolean isDigit(char c) {
        return c >= '0' && c <= '9';
    }

    /** Up to the first token that can't be one, which is told as broken, or to the end, told as an empty one. */
    private void split(String text) {
        int at = 0;
        while (at < text.length()) {
            char c = text.charAt(at);
            int from = at;
            if (c == 10 || c == 32) {
                at++;
                continue;
            }
            boolean touching = from > 0 && (isLetter(text.charAt(from - 1)) || isDigit(text.charAt(from - 1)));
            if (isLetter(c) || isDigit(c)) {
                boolean word = isLetter(c);
                while (at < text.length() && (word ? isLetter(text.charAt(at)) : isDigit(text.charAt(at)))) {
                    at++;
                }
                int most = word ? 6 : 4;
                int broken = touching ? from : at - from > most ? from + most : -1;
                tokens.add(new Token(text.substring(from, at), from, broken));
                if (broken >= 0) {
                    return;
                }
            } else {
                at++;
                boolean sign = ";()[],+-*/%<>=".indexOf(c) >= 0;
                tokens.add(new Token(String.valueOf(c), from, sign ? -1 : from));
                if (!sign) {
                    return;
                }
            }
        }
        tokens.add(new Token("", text.length(), -1));
    }

    private void fail(int kind, Token token) {
        fault = kind;
        place = token.place();
    }

    private void expect(String... symbols) {
        for (int i = symbols.length - 1; i >= 0; i--) {
            stack.push(symbols[i]);
        }
    }

    private void take(Token token) {
        if (sum != null) {
            sums.get(sum).add(token);
        }
        next++;
    }

    private void step(String symbol, Token token) {
        if (symbol.startsWith("'")) {
            if (token.text().equals(symbol.substring(1))) {
                take(token);
            } else {
                fail(1, token);
            }
        } else if (symbol.startsWith("N ")) {
            number(symbol.split(" "), token);
        } else if (symbol.startsWith("NAME")) {
            name(symbol, token);
        } else if (symbol.startsWith("OPEN")) {
            if (!token.text().equals(symbol.substring(4))) {
                fail(1, token);
            } else if (open == 7) {
                fail(5, token);
            } else {
                open++;
                take(token);
            }
        } else if (symbol.equals("SHUT")) {
            open--;
        } else if (symbol.equals("SUMEND")) {
            sum = null;
        } else if (symbol.equals("TEXT") || symbol.equals("STATEMENT") || symbol.equals("LENGTHS")) {
            outer(symbol, token);
        } else {
            inner(symbol, token);
        }
    }

    private void outer(String symbol, Token token) {
        String t = token.text();
        if (symbol.equals("TEXT")) {
            if (!t.isEmpty()) {
                expect("STATEMENT", "';", "TEXT");
            }
        } else if (symbol.equals("LENGTHS")) {
            if (t.equals("at")) {
                if (tunnels.get(tunnels.size() - 1).lengths.size() == 4) {
                    fail(6, token);
                } else {
                    expect("'at", "N length 1 60", "'weighs", "N weight 1 9", "LENGTHS");
                }
            }
        } else {
            statement(token);
        }
    }

    private void statement(Token token) {
        statements++;
        switch (token.text()) {
            case "tunnel" -> {
                if (tunnels.size() == 6) {
                    fail(6, token);
                }
                expect("'tunnel", "NAMEtunnel", "'gap", "N gap 0 99", "'at", "N length 1 60", "'weighs", "N weight 1 9",
                    "LENGTHS");
            }
            case "holder" -> {
                if (holders.size() == 6) {
                    fail(6, token);
                }
                expect("'holder", "NAMEholder", "'breath", "N breath 1 60", "'laughs", "N laughs 0 50");
            }
            case "thinks" -> expect("'thinks", "NAMEof", "NAMEthought", "N thinks 1 60");
            case "gives" -> expect("'gives", "NAMEof", "N gives 0 60");
            case "seen" -> expect("'seen", "N seen 0 100");
            case "fine" -> expect("'fine", "N fine 0 999");
            case "worth", "tires" -> {
                if (sums.containsKey(token.text())) {
                    fail(6, token);
                    return;
                }
                next++;
                sum = token.text();
                sums.put(sum, new ArrayList<>());
                expect("SUM", "SUMEND");
            }
            default -> fail(1, token);
        }
    }

    private void inner(String symbol, Token token) {
        String t = token.text();
        switch (symbol) {
            case "SUM" -> expect("PRODUCT", "SUMS");
            case "SUMS" -> {
                if (t.equals("+") || t.equals("-")) {
                    expect("'" + t, "PRODUCT", "SUMS");
                }
            }
            case "PRODUCT" -> expect("PART", "PARTS");
            case "PARTS" -> {
                if (t.equals("*") || t.equals("/") || t.equals("%")) {
                    expect("'" + t, "PART", "PARTS");
                }
            }
            case "PART" -> part(token);
            case "TEST" -> expect("BOTH", "ORS");
            case "ORS" -> {
                if (t.equals("or")) {
                    expect("'or", "BOTH", "ORS");
                }
            }
            case "BOTH" -> expect("FACT", "ANDS");
            case "ANDS" -> {
                if (t.equals("and")) {
                    expect("'and", "FACT", "ANDS");
                }
            }
            case "FACT" -> {
                switch (t) {
                    case "not" -> expect("OPENnot", "FACT", "SHUT");
                    case "[" -> expect("OPEN[", "TEST", "']", "SHUT");
                    case "all" -> expect("'all");
                    default -> expect("SUM", "SIGN", "SUM");
                }
            }
            case "SIGN" -> {
                if (t.equals("<") || t.equals(">") || t.equals("=")) {
                    take(token);
                } else {
                    fail(1, token);
                }
            }
            default -> throw new IllegalStateException(symbol);
        }
    }

    private void part(Token token) {
        String t = token.text();
        if (token.isNumber() || FACTS.contains(t)) {
            take(token);
        } else if (t.equals("(")) {
            expect("OPEN(", "SUM", "')", "SHUT");
        } else if (t.equals("if")) {
            expect("'if", "OPEN(", "TEST", "',", "SUM", "',", "SUM", "')", "SHUT");
        } else if (t.equals("min") || t.equals("max")) {
            expect("'" + t, "OPEN(", "SUM", "',", "SUM", "')", "SHUT");
        } else {
            fail(1, token);
        }
    }

    private void number(String[] rule, Token token) {
        if (!token.isNumber()) {
            fail(1, token);
            return;
        }
        int n = token.value();
        if (n < Integer.parseInt(rule[2]) || n > Integer.parseInt(rule[3])) {
            fail(4, token);
            return;
        }
        Tunnel tunnel = tunnels.isEmpty() ? null : tunnels.get(tunnels.size() - 1);
        Holder holder = holders.isEmpty() ? null : holders.get(holders.size() - 1);
        switch (rule[1]) {
            case "gap" -> tunnel.gap = n;
            case "length" -> {
                if (tunnel.lengths.contains(n)) {
                    fail(4, token);
                }
                tunnel.lengths.add(n);
            }
            case "weight" -> tunnel.weights.add(n);
            case "breath" -> holder.breath = n;
            case "laughs" -> holder.laughs = n;
            case "thinks" -> thinker.thinks.put(thought.name, n);
            case "gives" -> thinker.gives = n;
            case "seen" -> seen = n;
            case "fine" -> fine = n;
            default -> throw new IllegalStateException(rule[1]);
        }
        next++;
    }

    private void name(String symbol, Token token) {
        if (!token.isName()) {
            fail(1, token);
            return;
        }
        String given = token.text();
        switch (symbol) {
            case "NAMEtunnel", "NAMEholder" -> {
                if (!names.add(given)) {
                    fail(2, token);
                } else if (symbol.equals("NAMEtunnel")) {
                    tunnels.add(new Tunnel());
                    tunnels.get(tunnels.size() - 1).name = given;
                } else {
                    holders.add(new Holder());
                    holders.get(holders.size() - 1).name = given;
                }
            }
            case "NAMEof" -> {
                thinker = holders.stream().filter(h -> h.name.equals(given)).findFirst().orElse(null);
                if (thinker == null) {
                    fail(3, token);
                }
            }
            default -> {
                thought = tunnels.stream().filter(u -> u.name.equals(given)).findFirst().orElse(null);
                if (thought == null) {
                    fail(3, token);
                }
            }
        }
        next++;
    }
}
