import java.util.Map;
import java.util.Set;
import java.util.TreeMap;
import java.util.TreeSet;

/** Which method of the class calls which: what LANGUAGE.md says of recursion and of calls in one another. */
final class CallGraph {
    /** How often one level may lie in another: seven that are open, and four tunnels are less. */
    private static final int MOST_LEVELS = 8;
    private static final int MOST_DEEP = 8;
    private static final int MOST_OPEN = 300;

    private final Map<String, Set<String>> calls = new TreeMap<>();
    /** Without the calls that hand on a level one deeper. */
    private final Map<String, Set<String>> level = new TreeMap<>();
    private final Set<String> face = new TreeSet<>();
    private final Set<String> hidden = new TreeSet<>();
    private final Map<String, Set<String>> reached = new TreeMap<>();

    void add(String method, boolean isFace, boolean isHidden) {
        calls.putIfAbsent(method, new TreeSet<>());
        level.putIfAbsent(method, new TreeSet<>());
        if (isFace) {
            face.add(method);
        }
        if (isHidden) {
            hidden.add(method);
        }
    }

    void call(String from, String to, boolean deeper) {
        calls.get(from).add(to);
        if (!deeper) {
            level.get(from).add(to);
        }
    }

    void keepsRules(Check check) {
        for (String method : calls.keySet()) {
            reached.put(method, reachedFrom(method, calls));
        }
        boolean levels = true;
        for (String method : calls.keySet()) {
            if (isRecursive(method)) {
                check.due("rule 8: " + method + " is private", hidden.contains(method), true);
                boolean again = reachedFrom(method, level).contains(method);
                check.due("rule 8: " + method + " comes to itself on its own level", again, false);
                levels &= !again;
            }
        }
        for (String method : levels ? calls.keySet() : Set.<String>of()) {
            if (isRecursive(method)) {
                int open = longest(method) * MOST_LEVELS + MOST_DEEP;
                check.due("rule 8: " + method + " has " + open + " open, 300 at the most", open <= MOST_OPEN, true);
            }
        }
        for (String method : face) {
            int deep = deepest(method);
            check.due("rule 11: " + method + " goes " + deep + " deep, eight at the most", deep <= MOST_DEEP, true);
        }
        check.due("rule 11: calls of the face", face.size() > 30, true);
    }

    private static Set<String> reachedFrom(String method, Map<String, Set<String>> by) {
        Set<String> all = new TreeSet<>();
        java.util.ArrayDeque<String> next = new java.util.ArrayDeque<>(by.get(method));
        while (!next.isEmpty()) {
            String one = next.pop();
            if (all.add(one)) {
                next.addAll(by.getOrDefault(one, Set.of()));
            }
        }
        return all;
    }

    private boolean isRecursive(String method) {
        return reached.get(method).contains(method);
    }

    /** The most methods that call one another on one level, this one first. */
    private int longest(String method) {
        int most = 0;
        for (String next : level.get(method)) {
            if (isRecursive(next) && reached.get(next).contains(method)) {
                most = Math.max(most, longest(next));
            }
        }
        return 1 + most;
    }

    /** The most calls in one another, this one among them; methods that call one another count as one. */
    private int deepest(String method) {
        Set<String> ring = new TreeSet<>(Set.of(method));
        for (String other : reached.get(method)) {
            if (reached.get(other).contains(method)) {
                ring.add(other);
            }
        }
        int most = 0;
        for (String one : ring) {
            for (String next : calls.get(one)) {
                if (!ring.contains(next)) {
                    most = Math.max(most, deepest(next));
                }
            }
        }
        return 1 + most;
    }
}
