import java.util.ArrayList;
import java.util.List;
import java.util.Random;
import java.util.regex.Matcher;
import java.util.regex.Pattern;

/** Texts of ROADS by chance, whole or with faults put in. */
final class RandomRoad {
    private static final String[] BITS = {"(", ")", "[", "]", ",", ";", "+", "-", "*", "/", "%", "<", ">", "=", " ", "\n",
        " at 5 weighs 1", " not ", " all ", " held ", " if(", " min(", " tunnel ", " holder ", " 12345 ", " abcdefg ", "7",
        "x", " or ", " and ", "\t", "A", "gives ha 5;", "worth 1;", " seen 101;", "thinks ta ha 3;", "0", "\u00ff"};

    private final Random random;
    private final List<String> names = new ArrayList<>();
    private int tunnels = 0;
    private int holders = 0;
    private boolean careless = false;

    RandomRoad(Random random) {
        this.random = random;
    }

    private int upTo(int most) {
        return random.nextInt(most + 1);
    }

    private String newName(String start) {
        String name = start + (char) ('a' + names.size());
        while (name.length() < 6 && random.nextInt(3) == 0) {
            name += (char) ('a' + upTo(25));
        }
        if (names.contains(name) || ModelText.OWN.contains(name)) {
            name = start + "x" + (char) ('a' + names.size());
        }
        names.add(name);
        return name;
    }

    String text() {
        String whole = "";
        for (int tries = 0; tries < 50; tries++) {
            names.clear();
            tunnels = 0;
            holders = 0;
            whole = statements();
            if (whole.length() <= 1600) {
                return whole;
            }
        }
        return "seen 1;";
    }

    private String statements() {
        List<String> t = new ArrayList<>();
        List<String> h = new ArrayList<>();
        List<String> all = new ArrayList<>();
        boolean full = random.nextInt(8) == 0;
        int mostTunnels = full ? 6 : random.nextInt(10) == 0 ? upTo(6) : 1 + upTo(3);
        int mostHolders = full ? 6 : random.nextInt(10) == 0 ? upTo(6) : 1 + upTo(4);
        boolean worth = random.nextInt(12) > 0;
        boolean tires = random.nextInt(6) > 0;
        while (tunnels < mostTunnels || holders < mostHolders) {
            if (tunnels < mostTunnels && (holders == mostHolders || random.nextBoolean())) {
                t.add(newName("t"));
                all.add(tunnel(t.get(tunnels++)));
            } else {
                h.add(newName("h"));
                all.add("holder " + h.get(holders++) + " breath " + (1 + upTo(random.nextInt(3) == 0 ? 59 : 20)) + " laughs "
                    + (random.nextBoolean() ? 0 : upTo(random.nextBoolean() ? 50 : 8)));
            }
        }
        for (int i = upTo(4); i > 0 && !t.isEmpty() && !h.isEmpty(); i--) {
            all.add("thinks " + h.get(upTo(holders - 1)) + " " + t.get(upTo(tunnels - 1)) + " " + (1 + upTo(39)));
        }
        for (int i = upTo(3); i > 0 && !h.isEmpty(); i--) {
            all.add("gives " + h.get(upTo(holders - 1)) + " " + upTo(random.nextInt(3) == 0 ? 60 : 30));
        }
        if (worth) {
            all.add(upTo(all.size()), "worth " + sum(0, 0));
        }
        if (tires) {
            all.add(upTo(all.size()), "tires " + (random.nextBoolean() ? "breath-held/" + (1 + upTo(4)) + "+gap%7"
                : "min(60,max(" + upTo(9) + "," + sum(2, 1) + "))"));
        }
        if (random.nextBoolean()) {
            all.add("seen " + upTo(100));
        }
        if (random.nextBoolean()) {
            all.add(0, "fine " + upTo(random.nextBoolean() ? 999 : 20));
        }
        return String.join(random.nextBoolean() ? ";" : " ;\n", all) + (all.isEmpty() ? "" : ";");
    }

    private String tunnel(String name) {
        StringBuilder told = new StringBuilder("tunnel " + name + " gap " + upTo(99));
        List<Integer> lengths = new ArrayList<>();
        int most = 1 + upTo(3);
        while (lengths.size() < most) {
            int length = 1 + upTo(random.nextInt(3) == 0 ? 59 : 24);
            if (!lengths.contains(length)) {
                lengths.add(length);
                told.append(" at ").append(length).append(" weighs ").append(1 + upTo(8));
            }
        }
        return told.toString();
    }

    private String sum(int open, int deep) {
        StringBuilder told = new StringBuilder(product(open, deep));
        for (int i = upTo(deep < 2 ? 3 : 1); i > 0; i--) {
            told.append(random.nextBoolean() ? "+" : " - ").append(product(open, deep));
        }
        return told.toString();
    }

    private String product(int open, int deep) {
        StringBuilder told = new StringBuilder(part(open, deep));
        for (int i = random.nextInt(3) == 0 ? 1 : 0; i > 0; i--) {
            told.append("*/%".charAt(upTo(2))).append(part(open, deep));
        }
        return told.toString();
    }

    private String part(int open, int deep) {
        if (careless && random.nextInt(12) == 0) {
            int more = Math.max(0, 5 - open) + upTo(4);
            return "(".repeat(more) + "held" + ")".repeat(more);
        }
        int kind = open >= 6 || deep > 4 ? upTo(5) : upTo(9);
        switch (kind) {
            case 0, 1: return String.valueOf(upTo(random.nextInt(6) == 0 ? 9999 : 30));
            case 6: return "(" + sum(open + 1, deep + 1) + ")";
            case 7: return (random.nextBoolean() ? "min(" : "max (") + sum(open + 1, deep + 1) + "," + sum(open + 1, deep + 1)
                + ")";
            case 8, 9: return "if(" + test(open + 1, deep + 1) + "," + sum(open + 1, deep + 1) + " , " + sum(open + 1, deep + 1)
                + ")";
            default: return new String[] {"held", "long", "made", "last", "beaten", "breath", "gap"}[upTo(6)];
        }
    }

    private String test(int open, int deep) {
        String told = fact(open, deep);
        while (random.nextInt(4) == 0) {
            told += (random.nextBoolean() ? " or " : " and ") + fact(open, deep);
        }
        return told;
    }

    private String fact(int open, int deep) {
        if (careless && random.nextInt(6) == 0) {
            int more = Math.max(0, 5 - open) + upTo(4);
            return random.nextBoolean() ? "not ".repeat(more) + "all" : "[".repeat(more) + "all" + "]".repeat(more);
        }
        int kind = upTo(9);
        if (kind == 0 && open < 6) {
            return "not " + fact(open + 1, deep + 1);
        }
        if (kind == 1 && open < 6) {
            return "[" + test(open + 1, deep + 1) + "]";
        }
        return kind == 2 ? "all" : sum(open, deep + 1) + "<>=".charAt(upTo(2)) + sum(open, deep + 1);
    }

    /** Some 80 statements, a few more or less, and then anything. */
    String crowdedText() {
        StringBuilder told = new StringBuilder();
        for (int i = 77 + upTo(4); i > 0; i--) {
            told.append(upTo(1) == 0 ? "seen " : "fine ").append(upTo(100)).append(upTo(9) == 0 ? " ;\n" : ";");
        }
        for (int i = upTo(3); i > 0; i--) {
            told.append(BITS[upTo(BITS.length - 1)]);
        }
        if (upTo(3) == 0) {
            glue(told);
        }
        return told.toString();
    }

    String brokenText() {
        careless = upTo(2) == 0;
        StringBuilder told = new StringBuilder(text());
        if (upTo(5) == 0) {
            glue(told);
        }
        for (int i = careless ? upTo(1) : 1 + upTo(1); i > 0; i--) {
            if (upTo(2) > 0) {
                changeToken(told);
            } else {
                changeByte(told);
            }
        }
        return told.length() > 1600 ? told.substring(0, 1600) : told.toString();
    }

    private void changeByte(StringBuilder told) {
        int at = upTo(Math.max(0, told.length() - 1));
        switch (upTo(4)) {
            case 0: {
                if (at < told.length()) {
                    told.deleteCharAt(at);
                }
                break;
            }
            case 1: told.setLength(at); break;
            case 2: {
                int to = Math.min(told.length(), at + 1 + upTo(30));
                told.insert(at, told.substring(at, to));
                break;
            }
            default: told.insert(at, BITS[upTo(BITS.length - 1)]); break;
        }
    }

    /** A word or a number gets another one at its end without a blank, which may be too long itself. */
    private void glue(StringBuilder told) {
        List<Integer> ends = new ArrayList<>();
        Matcher matcher = Pattern.compile("[0-9]+|[a-z]+").matcher(told);
        while (matcher.find()) {
            ends.add(matcher.end());
        }
        if (!ends.isEmpty()) {
            int at = ends.get(upTo(ends.size() - 1));
            boolean blank = at < told.length() && told.charAt(at) == ' ';
            if (blank && upTo(1) == 0) {
                told.deleteCharAt(at);
            } else {
                told.insert(at, upTo(1) == 0 ? "12345678".substring(0, 1 + upTo(6)) : "abcdefghi".substring(0, 1 + upTo(8)));
            }
        }
    }

    /** Most of such texts stay well formed, so that the other faults than the first kind come up too. */
    private void changeToken(StringBuilder told) {
        List<int[]> spans = new ArrayList<>();
        Matcher matcher = Pattern.compile("[0-9]+|[a-z]+|[^;]+;").matcher(told);
        while (matcher.find()) {
            spans.add(new int[] {matcher.start(), matcher.end()});
        }
        if (spans.isEmpty()) {
            return;
        }
        int[] span = spans.get(upTo(spans.size() - 1));
        String token = told.substring(span[0], span[1]);
        String other = token;
        if (Character.isDigit(token.charAt(0))) {
            other = upTo(3) == 0 ? "(".repeat(upTo(9)) + token : String.valueOf(upTo(upTo(3) == 0 ? 1200 : 110));
        } else if (names.contains(token)) {
            other = names.get(upTo(names.size() - 1));
        } else {
            int from = told.lastIndexOf(";", span[0]) + 1;
            int to = told.indexOf(";", span[0]) + 1;
            if (to > from) {
                told.insert(upTo(1) == 0 ? to : from, told.substring(from, to).repeat(1 + upTo(3)));
                return;
            }
        }
        told.replace(span[0], span[1], other);
    }
}
