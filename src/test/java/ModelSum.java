import java.util.List;
import java.util.Map;

/** A SUM's value straight from its tokens, which are known to be one. */
final class ModelSum {
    private final List<ModelText.Token> tokens;
    private final Map<String, Integer> facts;
    private int next = 0;

    private ModelSum(List<ModelText.Token> tokens, Map<String, Integer> facts) {
        this.tokens = tokens;
        this.facts = facts;
    }

    static int value(List<ModelText.Token> tokens, Map<String, Integer> facts) {
        return (int) new ModelSum(tokens, facts).sum();
    }

    private String peek() {
        return next < tokens.size() ? tokens.get(next).text() : "";
    }

    private String take() {
        return tokens.get(next++).text();
    }

    private static long cut(long value) {
        return value > 1000000 ? 1000000 : value < -1000000 ? -1000000 : value;
    }

    private long sum() {
        long left = product();
        while (peek().equals("+") || peek().equals("-")) {
            left = take().equals("+") ? cut(left + product()) : cut(left - product());
        }
        return left;
    }

    private long product() {
        long left = part();
        while (peek().equals("*") || peek().equals("/") || peek().equals("%")) {
            String sign = take();
            long right = part();
            long floor = right == 0 ? 0 : (long) Math.floor((double) left / right);
            left = sign.equals("*") ? cut(left * right) : sign.equals("/") ? cut(floor)
                : right == 0 ? 0 : cut(left - right * floor);
        }
        return left;
    }

    private long part() {
        String t = take();
        if (facts.containsKey(t)) {
            return facts.get(t);
        }
        switch (t) {
            case "(": {
                long value = sum();
                take();
                return value;
            }
            case "if": {
                take();
                boolean holds = test();
                take();
                long yes = sum();
                take();
                long no = sum();
                take();
                return holds ? yes : no;
            }
            case "min":
            case "max": {
                take();
                long a = sum();
                take();
                long b = sum();
                take();
                return t.equals("min") == a < b ? a : b;
            }
            default: return Long.parseLong(t);
        }
    }

    private boolean test() {
        boolean left = both();
        while (peek().equals("or")) {
            take();
            left |= both();
        }
        return left;
    }

    private boolean both() {
        boolean left = fact();
        while (peek().equals("and")) {
            take();
            left &= fact();
        }
        return left;
    }

    private boolean fact() {
        if (peek().equals("not")) {
            take();
            return !fact();
        }
        if (peek().equals("[")) {
            take();
            boolean inner = test();
            take();
            return inner;
        }
        if (peek().equals("all")) {
            take();
            return true;
        }
        long left = sum();
        String sign = take();
        long right = sum();
        return sign.equals("<") ? left < right : sign.equals(">") ? left > right : left == right;
    }
}
