import java.lang.reflect.InvocationTargetException;
import java.lang.reflect.Method;
import java.util.ArrayList;
import java.util.List;
import java.util.Map;
import java.util.TreeMap;
import java.util.function.IntSupplier;

/** Runs tests of boundary cases: a class's static methods whose names begin with promise and its number in two digits. */
final class Bounds {
    static final int NONE = BreathRoad.NONE;
    static final int NOTHING = BreathRoad.NOTHING;
    static final int LEAST = Integer.MIN_VALUE;
    static final int MOST = Integer.MAX_VALUE;

    private static final Check CHECK = new Check();
    private static String test = "";

    private Bounds() {
    }

    /** Each promise from the first to the last must have a test there. */
    static void run(Class<?> tests, int first, int last) {
        Map<String, Method> named = new TreeMap<>();
        for (Method method : tests.getDeclaredMethods()) {
            if (method.getName().matches("promise\\d\\d[A-Z].*")) {
                named.put(method.getName(), method);
            }
        }
        for (int promise = first; promise <= last; promise++) {
            String start = String.format("promise%02d", promise);
            CHECK.due(start + " has a test", named.keySet().stream().anyMatch(name -> name.startsWith(start)), true);
        }
        for (Method method : named.values()) {
            test = method.getName();
            try {
                method.invoke(null);
            } catch (InvocationTargetException | IllegalAccessException broken) {
                CHECK.due(test + ": " + broken + ", " + broken.getCause(), false, true);
            }
        }
        System.out.println(named.size() + " tests of promises " + first + " to " + last);
        CHECK.finish();
    }

    static void due(long got, long want) {
        CHECK.due(test + ": " + Called.latest, got, want);
    }

    static void due(boolean got, boolean want) {
        CHECK.due(test + ": " + Called.latest, got, want);
    }

    /** The answer is due to each of these numbers. */
    static void dueToEach(int want, java.util.function.IntUnaryOperator call, int... numbers) {
        for (int number : numbers) {
            due(call.applyAsInt(number), want);
        }
    }

    /** A call about a HOLDER in a TUNNEL. */
    interface OfBoth {
        int ask(Called x, int holder, int tunnel);
    }

    /** So many TUNNELS, 5 and more seconds long, and HOLDERS. */
    static String many(int tunnels, int holders) {
        StringBuilder text = new StringBuilder();
        for (int t = 0; t < tunnels; t++) {
            text.append("tunnel t").append((char) ('a' + t)).append(" gap ").append(t);
            text.append(" at ").append(5 + t).append(" weighs 1;");
        }
        for (int h = 0; h < holders; h++) {
            text.append("holder h").append((char) ('a' + h)).append(" breath ").append(20 + h).append(" laughs 0;");
        }
        return text.toString();
    }

    /** Three TUNNELS and two HOLDERS; the first believes the first one, the second the third one too long for him. */
    static final String UNLIKE = "tunnel ta gap 1 at 5 weighs 1;tunnel tb gap 10 at 8 weighs 1 at 3 weighs 3;"
        + "tunnel tc gap 40 at 20 weighs 1;holder ha breath 6 laughs 0;holder hb breath 30 laughs 0;"
        + "thinks ha ta 7;thinks hb tc 31;";

    /** What is due of each HOLDER of UNLIKE in each TUNNEL. */
    static void dueOfEach(Called x, OfBoth call, int... want) {
        for (int h = 0; h < 2; h++) {
            for (int t = 0; t < 3; t++) {
                due(call.ask(x, h, t), want[3 * h + t]);
            }
        }
    }

    /** The answer is due where there is no such HOLDER or no such TUNNEL, and nowhere else. */
    static void dueToNoneSuch(int want, OfBoth call) {
        int[][] counts = {{0, 0}, {0, 1}, {1, 0}, {1, 3}, {3, 1}, {2, 6}, {6, 2}, {6, 6}};
        for (int[] count : counts) {
            Called x = Called.of(many(count[0], count[1]) + "worth 7+held+gap;");
            for (int t = -1; t <= count[0] + 1; t++) {
                for (int h = -1; h <= count[1] + 1; h++) {
                    boolean there = t >= 0 && t < count[0] && h >= 0 && h < count[1];
                    due(call.ask(x, h, t) == want, !there);
                }
            }
        }
    }

    /** All that can be asked, line by line: what was refused and the tape are not among it. */
    static List<String> all(Called x) {
        List<String> lines = new ArrayList<>();
        for (int what = 0; what < 2; what++) {
            add(lines, x.fault(what));
        }
        for (int what = 0; what < 8; what++) {
            add(lines, x.has(what));
        }
        int tunnels = x.has(0);
        int holders = x.has(1);
        for (int t = 0; t < tunnels; t++) {
            add(lines, x.letter(0, t, 0));
            for (int what : new int[] {0, 1, 2, 10, 11, 20, 21}) {
                add(lines, x.tunnel(t, what));
            }
            add(lines, x.rest(t, NONE));
        }
        for (int h = 0; h < holders; h++) {
            add(lines, x.letter(1, h, 0));
            for (int what : new int[] {0, 1, 2, 3, 10, 11}) {
                add(lines, x.holder(h, what));
            }
            add(lines, x.score(h));
            add(lines, x.worth(h, 0, 9));
            add(lines, x.tired(h, 0, 9, 5));
            add(lines, x.alone(h, 0, 1));
            add(lines, x.on(h, 2, 1));
            add(lines, x.hidden(h, 0, 1));
        }
        int kept = x.has(5);
        for (int i = 0; i < 4 * kept; i++) {
            add(lines, x.kept(i / 4, i % 4));
        }
        for (int what = 0; what < 3; what++) {
            add(lines, x.fit(what));
        }
        for (int k = 0; k < 17; k++) {
            add(lines, x.octet(k));
        }
        return lines;
    }

    private static void add(List<String> lines, int answer) {
        lines.add(Called.latest + " " + answer);
    }

    private static int[] refused(Called x) {
        int[] counts = new int[5];
        for (int kind = 0; kind < counts.length; kind++) {
            counts[kind] = x.status(kind);
        }
        return counts;
    }

    /** Every one of these calls answers NONE, counts as refused once, of its kind alone, and all else stays. */
    static void refuses(Called x, int kind, IntSupplier... calls) {
        List<String> before = all(x);
        int[] counts = refused(x);
        for (IntSupplier call : calls) {
            due(call.getAsInt(), NONE);
        }
        counts[kind] += calls.length;
        for (int k = 0; k < counts.length; k++) {
            due(x.status(k), counts[k]);
        }
        same(before, all(x));
    }

    static void same(List<String> before, List<String> now) {
        for (int i = 0; i < Math.max(before.size(), now.size()); i++) {
            String was = i < before.size() ? before.get(i) : "nothing";
            String is = i < now.size() ? now.get(i) : "nothing";
            CHECK.due(test + ": as ahead of it, " + was + ", now " + is, was.equals(is), true);
        }
    }

    /** Of a call that is refused with false. */
    static int asNone(boolean answer) {
        return answer ? 1 : NONE;
    }

    /** A ROAD behind which nothing is as at first: kept ones, acts, faces, an image, another seed, a fault told. */
    static Called used() {
        Called x = Called.of("tunnel ta gap 3 at 4 weighs 2 at 9 weighs 1;tunnel tb gap 8 at 6 weighs 1;"
            + "holder ha breath 7 laughs 20;holder hb breath 5 laughs 0;thinks hb ta 3;gives ha 6;"
            + "worth held*3+last-beaten*2+made*gap;tires breath-held/2+1;seen 30;fine 12;");
        x.seed(7);
        x.drive(1);
        x.believe(0, 1, 2);
        x.put(0, 4, 1, 4);
        x.faces(0);
        x.image();
        x.give(1, 33);
        x.read("seen 5;!");
        return x;
    }

    private static void dueOf(String call, String text, long got, long want) {
        Called.latest = call + " of " + (text.length() > 200 ? text.substring(0, 200) + " .." : text);
        due(got, want);
    }

    /** A text with one mark, |, where its FAULT is. */
    static void faults(int kind, String marked) {
        String text = marked.replace("|", "");
        Called x = new Called();
        x.put(text);
        dueOf("road()", marked, x.road(), NONE);
        dueOf("fault(0)", marked, x.fault(0), kind);
        dueOf("fault(1)", marked, x.fault(1), marked.indexOf('|'));
        dueOf("status(1)", marked, x.status(1), 1);
    }

    /** A text without a FAULT. */
    static Called reads(String text) {
        Called x = new Called();
        x.put(text);
        dueOf("road()", text, x.road(), text.chars().filter(sign -> sign == ';').count());
        dueOf("fault(0)", text, x.fault(0), 0);
        dueOf("fault(1)", text, x.fault(1), NONE);
        dueOf("status(1)", text, x.status(1), 0);
        return x;
    }
}
