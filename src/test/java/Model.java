import java.math.BigInteger;
import java.util.ArrayDeque;
import java.util.ArrayList;
import java.util.Deque;
import java.util.HashMap;
import java.util.List;
import java.util.Map;
import java.util.function.IntFunction;

/** The document's words in their slowest form, to compare BreathRoad with. */
final class Model {
    private static final int NONE = -1;
    private static final int NOTHING = -1000000000;

    /** An exact mean. */
    private record Mean(BigInteger part, BigInteger whole) implements Comparable<Mean> {
        static Mean of(long n) {
            return new Mean(BigInteger.valueOf(n), BigInteger.ONE);
        }

        Mean plus(Mean o) {
            return new Mean(part.multiply(o.whole).add(o.part.multiply(whole)), whole.multiply(o.whole));
        }

        Mean times(long n, long d) {
            BigInteger p = part.multiply(BigInteger.valueOf(n));
            BigInteger w = whole.multiply(BigInteger.valueOf(d));
            BigInteger g = p.gcd(w);
            return g.signum() == 0 ? this : new Mean(p.divide(g), w.divide(g));
        }

        @Override
        public int compareTo(Mean o) {
            return part.multiply(o.whole).compareTo(o.part.multiply(whole));
        }

        int thousandths() {
            BigInteger[] qr = part.multiply(BigInteger.valueOf(1000)).divideAndRemainder(whole);
            return qr[0].intValue() - (qr[1].signum() < 0 ? 1 : 0);
        }
    }

    private static final class State {
        int next = 0;
        int[] breath;
        int[] gives;
        int[] score;
        int[][] thinks;
        List<int[]> kept = new ArrayList<>();

        State copy() {
            State s = new State();
            s.next = next;
            s.breath = breath.clone();
            s.gives = gives.clone();
            s.score = score.clone();
            s.thinks = new int[thinks.length][];
            for (int i = 0; i < thinks.length; i++) {
                s.thinks[i] = thinks[i].clone();
            }
            s.kept = new ArrayList<>(kept);
            return s;
        }
    }

    private List<Integer> tape = new ArrayList<>();
    private ModelText road = new ModelText("");
    private ModelText latest = road;
    private State now = first(road);
    private final Deque<State> acts = new ArrayDeque<>();
    private int facesTunnel = NONE;
    private List<int[]> faces = null;
    private List<Integer> picture = new ArrayList<>();
    private final int[] refused = new int[5];
    private long x = 1;

    private static State first(ModelText road) {
        State s = new State();
        int n = road.holders.size();
        s.breath = new int[n];
        s.gives = new int[n];
        s.score = new int[n];
        s.thinks = new int[n][road.tunnels.size()];
        for (int h = 0; h < n; h++) {
            ModelText.Holder holder = road.holders.get(h);
            s.breath[h] = holder.breath;
            s.gives[h] = holder.gives;
            for (int t = 0; t < road.tunnels.size(); t++) {
                s.thinks[h][t] = holder.thinks.getOrDefault(road.tunnels.get(t).name, 0);
            }
        }
        return s;
    }

    private int refuse(int kind) {
        refused[kind]++;
        return NONE;
    }

    private boolean noTunnel(int t) {
        return t < 0 || t >= road.tunnels.size();
    }

    private boolean noHolder(int h) {
        return h < 0 || h >= road.holders.size();
    }

    private static boolean not(int least, int value, int most) {
        return value < least || value > most;
    }

    private int lengths(int t) {
        return road.tunnels.get(t).lengths.size();
    }

    private int length(int t, int k) {
        return road.tunnels.get(t).lengths.get(k);
    }

    private int weight(int t, int k) {
        return road.tunnels.get(t).weights.get(k);
    }

    private int weights(int t) {
        return road.tunnels.get(t).weights.stream().mapToInt(Integer::intValue).sum();
    }

    private Mean mean(int t, IntFunction<Mean> ofLength) {
        Mean all = Mean.of(0);
        for (int k = 0; k < lengths(t); k++) {
            all = all.plus(ofLength.apply(length(t, k)).times(weight(t, k), weights(t)));
        }
        return all;
    }

    private int sum(String which, int t, int length, int[] held, int h, int breath) {
        Map<String, Integer> facts = new HashMap<>();
        int longer = 0;
        int less = 0;
        for (int other : held) {
            longer += other > held[h] ? 1 : 0;
            less += other < held[h] ? 1 : 0;
        }
        facts.put("held", held[h]);
        facts.put("long", length);
        facts.put("made", held[h] == length ? 1 : 0);
        facts.put("last", longer == 0 ? 1 : 0);
        facts.put("beaten", less);
        facts.put("breath", breath);
        facts.put("gap", road.tunnels.get(t).gap);
        return ModelSum.value(road.sums.get(which), facts);
    }

    private int worthOf(int t, int length, int[] held, int h, int breath) {
        if (!road.sums.containsKey("worth")) {
            return 0;
        }
        return Math.max(-999, Math.min(999, sum("worth", t, length, held, h, breath)));
    }

    private int tiredOf(int t, int length, int[] held, int h, int breath) {
        if (!road.sums.containsKey("tires")) {
            return breath;
        }
        return Math.max(0, Math.min(60, sum("tires", t, length, held, h, breath)));
    }

    private int hold(int h, int t, int length) {
        int lesser = Math.min(now.breath[h], now.gives[h]);
        if (now.thinks[h][t] > lesser) {
            return 0;
        }
        return Math.min(length, lesser);
    }

    private int[] holdAll(int t, int length) {
        int[] held = new int[road.holders.size()];
        for (int h = 0; h < held.length; h++) {
            held[h] = hold(h, t, length);
        }
        return held;
    }

    private static int[] just(int seconds) {
        return new int[] {seconds};
    }

    int feed(int a, int b, int c, int d, int e) {
        if (tape.size() > 1580) {
            return refuse(0);
        }
        for (int n : new int[] {a, b, c, d, e}) {
            for (int k = 3; k >= 0; k--) {
                tape.add(n >>> 8 * k & 255);
            }
        }
        return tape.size();
    }

    boolean end(int n) {
        if (n < 0 || n > tape.size()) {
            refuse(0);
            return false;
        }
        tape = new ArrayList<>(tape.subList(0, n));
        return true;
    }

    int road() {
        StringBuilder text = new StringBuilder();
        for (int octet : tape) {
            text.append((char) octet);
        }
        tape.clear();
        latest = new ModelText(text.toString());
        if (latest.fault != 0) {
            return refuse(1);
        }
        road = latest;
        now = first(road);
        acts.clear();
        faces = null;
        return road.statements;
    }

    int fault(int what) {
        return what == 0 ? latest.fault : what == 1 ? latest.place : NONE;
    }

    int has(int what) {
        int[] all = {road.tunnels.size(), road.holders.size(), road.seen, road.fine, now.next,
            Math.min(48, now.kept.size()), acts.size(), (int) x};
        return not(0, what, 7) ? NONE : all[what];
    }

    int letter(int kind, int which, int k) {
        if (not(0, kind, 1) || not(0, k, 5) || (kind == 0 ? noTunnel(which) : noHolder(which))) {
            return NONE;
        }
        String name = kind == 0 ? road.tunnels.get(which).name : road.holders.get(which).name;
        return k < name.length() ? name.charAt(k) - 96 : 0;
    }

    int tunnel(int t, int what) {
        if (noTunnel(t)) {
            return NONE;
        }
        if (what == 0) {
            return road.tunnels.get(t).gap;
        }
        if (what == 1) {
            return lengths(t);
        }
        if (what == 2) {
            return weights(t);
        }
        if (!not(0, what - 10, lengths(t) - 1)) {
            return length(t, what - 10);
        }
        return not(0, what - 20, lengths(t) - 1) ? NONE : weight(t, what - 20);
    }

    int holder(int h, int what) {
        if (noHolder(h)) {
            return NONE;
        }
        if (what >= 10) {
            return noTunnel(what - 10) ? NONE : now.thinks[h][what - 10];
        }
        int[] all = {now.breath[h], road.holders.get(h).breath, road.holders.get(h).laughs, now.gives[h]};
        return not(0, what, 3) ? NONE : all[what];
    }

    int score(int h) {
        return noHolder(h) ? NOTHING : now.score[h];
    }

    int likely(int t, int seconds) {
        return noTunnel(t) || seconds < 0 ? NONE : mean(t, l -> Mean.of(l > seconds ? 1 : 0)).thousandths();
    }

    int holds(int h, int t, int length) {
        return noHolder(h) || noTunnel(t) || not(1, length, 60) ? NONE : hold(h, t, length);
    }

    int made(int h, int t) {
        return noHolder(h) || noTunnel(t) ? NONE
            : mean(t, l -> Mean.of(hold(h, t, l) == l ? 1 : 0)).thousandths();
    }

    int worth(int h, int t, int length) {
        return noHolder(h) || noTunnel(t) || not(1, length, 60) ? NOTHING
            : worthOf(t, length, holdAll(t, length), h, now.breath[h]);
    }

    int tired(int h, int t, int length, int held) {
        return noHolder(h) || noTunnel(t) || not(1, length, 60) || not(0, held, length) ? NONE
            : tiredOf(t, length, just(held), 0, now.breath[h]);
    }

    private Mean aloneMean(int t, int breath, int second) {
        return mean(t, l -> Mean.of(worthOf(t, l, just(Math.min(l, second)), 0, breath)));
    }

    private int aloneSecond(int t, int breath) {
        int best = 0;
        for (int s = 1; s <= breath; s++) {
            if (aloneMean(t, breath, s).compareTo(aloneMean(t, breath, best)) > 0) {
                best = s;
            }
        }
        return best;
    }

    int alone(int h, int t, int what) {
        if (noHolder(h) || noTunnel(t) || not(0, what, 1)) {
            return NOTHING;
        }
        int best = aloneSecond(t, now.breath[h]);
        return what == 0 ? best : aloneMean(t, now.breath[h], best).thousandths();
    }

    private Mean onMean(int t, int n, int breath, int second, Map<Integer, Mean> memo) {
        return mean(t, l -> {
            int[] held = just(Math.min(l, second));
            Mean then = Mean.of(worthOf(t, l, held, 0, breath));
            if (n == 1) {
                return then;
            }
            return then.plus(onBest((t + 1) % road.tunnels.size(), n - 1, tiredOf(t, l, held, 0, breath), memo));
        });
    }

    private Mean onBest(int t, int n, int breath, Map<Integer, Mean> memo) {
        Mean best = memo.get(n * 100 + breath);
        if (best == null) {
            for (int s = 0; s <= breath; s++) {
                Mean mean = onMean(t, n, breath, s, memo);
                best = best == null || mean.compareTo(best) > 0 ? mean : best;
            }
            memo.put(n * 100 + breath, best);
        }
        return best;
    }

    int on(int h, int n, int what) {
        if (noHolder(h) || road.tunnels.isEmpty() || not(1, n, 4) || not(0, what, 1)) {
            return NOTHING;
        }
        Map<Integer, Mean> memo = new HashMap<>();
        Mean best = onBest(now.next, n, now.breath[h], memo);
        if (what == 1) {
            return best.thousandths();
        }
        int s = 0;
        while (onMean(now.next, n, now.breath[h], s, memo).compareTo(best) < 0) {
            s++;
        }
        return s;
    }

    private Mean amongMean(int t, int h, int[] seconds) {
        return mean(t, l -> {
            int[] held = seconds.clone();
            for (int i = 0; i < held.length; i++) {
                held[i] = Math.min(l, held[i]);
            }
            return Mean.of(worthOf(t, l, held, h, now.breath[h]));
        });
    }

    int rest(int t, int k) {
        if (noTunnel(t) || k != NONE && noHolder(k)) {
            return NONE;
        }
        int[] seconds = now.breath.clone();
        int round = 1;
        for (; round <= 12; round++) {
            boolean moved = false;
            for (int h = 0; h < seconds.length; h++) {
                int own = seconds[h];
                int best = own;
                Mean most = amongMean(t, h, seconds);
                for (int s = 0; s <= now.breath[h]; s++) {
                    seconds[h] = s;
                    Mean mean = amongMean(t, h, seconds);
                    if (mean.compareTo(most) > 0) {
                        most = mean;
                        best = s;
                    }
                }
                seconds[h] = best;
                moved |= best != own;
            }
            if (!moved) {
                break;
            }
        }
        return k == NONE ? round : seconds[k];
    }

    int hidden(int h, int t, int what) {
        if (noHolder(h) || noTunnel(t) || not(0, what, 1)) {
            return NOTHING;
        }
        Mean unseen = mean(t, l -> Mean.of(worthOf(t, l, just(l), 0, now.breath[h])).times(100 - road.seen, 100))
            .plus(Mean.of(-road.fine).times(road.seen, 100));
        if (what == 1) {
            return unseen.thousandths();
        }
        int best = aloneSecond(t, now.breath[h]);
        return unseen.compareTo(aloneMean(t, now.breath[h], best)) > 0 ? 1 : 0;
    }

    private Mean paceMean(int t, int wanted, int pace) {
        return mean(t, l -> {
            int quick = Math.max(1, l / pace);
            boolean just = true;
            for (int h = 0; h < road.holders.size(); h++) {
                just &= (hold(h, t, quick) == quick) == ((wanted >> h & 1) == 1);
            }
            return Mean.of(just ? 1 : 0);
        });
    }

    int pace(int t, int wanted, int what) {
        if (noTunnel(t) || not(0, wanted, (1 << road.holders.size()) - 1) || not(0, what, 1)) {
            return NONE;
        }
        int best = 4;
        for (int p = 3; p >= 1; p--) {
            best = paceMean(t, wanted, p).compareTo(paceMean(t, wanted, best)) >= 0 ? p : best;
        }
        return what == 0 ? best : paceMean(t, wanted, best).thousandths();
    }

    private Mean whomMean(int h, int t, int who) {
        return mean(t, l -> {
            int[] held = holdAll(t, l);
            if (who >= 0) {
                held[who] = 0;
            }
            return Mean.of(worthOf(t, l, held, h, now.breath[h]));
        });
    }

    int whom(int h, int t, int what) {
        if (noHolder(h) || noTunnel(t) || not(0, what, 1)) {
            return NOTHING;
        }
        int best = NONE;
        for (int who = 0; who < road.holders.size(); who++) {
            if (who != h && whomMean(h, t, who).compareTo(whomMean(h, t, best)) > 0) {
                best = who;
            }
        }
        return what == 0 ? best : whomMean(h, t, best).thousandths();
    }

    int faces(int t) {
        List<Integer> told = tape;
        tape = new ArrayList<>();
        if (noTunnel(t) || told.size() % 2 == 1 || not(1, told.size() / 2, 12)) {
            return refuse(4);
        }
        List<int[]> rows = new ArrayList<>();
        for (int i = 0; i < told.size(); i += 2) {
            if (noHolder(told.get(i)) || told.get(i + 1) > 60) {
                return refuse(4);
            }
            rows.add(new int[] {told.get(i), told.get(i + 1)});
        }
        faces = rows;
        facesTunnel = t;
        return rows.size();
    }

    private boolean fits(int length) {
        return faces.stream().allMatch(row -> hold(row[0], facesTunnel, length) == row[1]);
    }

    int fit(int what) {
        if (faces == null || not(0, what, 2)) {
            return NONE;
        }
        int count = 0;
        int bits = 0;
        for (int k = 0; k < lengths(facesTunnel); k++) {
            if (fits(length(facesTunnel, k))) {
                count++;
                bits += 1 << k;
            }
        }
        return what == 0 ? count : what == 1 ? bits
            : mean(facesTunnel, l -> Mean.of(fits(l) ? 1 : 0)).thousandths();
    }

    private int draw(int m) {
        x = (1103515245L * x + 12345L) % (1L << 31);
        return (int) (x / 64 % m);
    }

    private void act() {
        acts.push(now.copy());
        if (acts.size() > 20) {
            acts.removeLast();
        }
    }

    int drive(int n) {
        if (not(1, n, 30) || road.tunnels.isEmpty()) {
            return refuse(2);
        }
        act();
        int all = 0;
        for (int i = 0; i < n; i++) {
            int t = now.next;
            int which = draw(weights(t));
            int k = 0;
            while (which >= weight(t, k)) {
                which -= weight(t, k);
                k++;
            }
            int length = length(t, k);
            int[] held = holdAll(t, length);
            for (int h = 0; h < held.length; h++) {
                int laughs = road.holders.get(h).laughs;
                for (int s = 1; s <= held[h] && laughs > 0; s++) {
                    if (draw(100) < laughs) {
                        held[h] = s - 1;
                    }
                }
                all += held[h];
            }
            for (int h = 0; h < held.length; h++) {
                int breath = now.breath[h];
                int score = now.score[h] + worthOf(t, length, held, h, breath);
                now.score[h] = Math.max(-99999, Math.min(99999, score));
                now.breath[h] = tiredOf(t, length, held, h, breath);
                now.kept.add(new int[] {t, length, h, held[h]});
            }
            now.next = (t + 1) % road.tunnels.size();
        }
        return all;
    }

    int pause() {
        act();
        int more = 0;
        for (int h = 0; h < now.breath.length; h++) {
            more += road.holders.get(h).breath - now.breath[h];
            now.breath[h] = road.holders.get(h).breath;
        }
        return more;
    }

    int believe(int h, int t, int length) {
        if (noHolder(h) || noTunnel(t) || not(0, length, 60)) {
            return refuse(2);
        }
        act();
        int before = now.thinks[h][t];
        now.thinks[h][t] = length;
        return before;
    }

    int give(int h, int seconds) {
        if (noHolder(h) || not(0, seconds, 60)) {
            return refuse(2);
        }
        act();
        int before = now.gives[h];
        now.gives[h] = seconds;
        return before;
    }

    boolean undo() {
        if (acts.isEmpty()) {
            refuse(3);
            return false;
        }
        now = acts.pop();
        return true;
    }

    boolean seed(int seed) {
        if (seed < 0) {
            refuse(4);
            return false;
        }
        x = seed;
        return true;
    }

    int kept(int k, int what) {
        int told = Math.min(48, now.kept.size());
        return not(0, k, told - 1) || not(0, what, 3) ? NONE : now.kept.get(now.kept.size() - told + k)[what];
    }

    private static int check(List<Integer> bytes) {
        int c = 107;
        for (int octet : bytes) {
            c = (5 * c + octet) % 251;
        }
        return c;
    }

    int image() {
        picture = new ArrayList<>();
        picture.add(now.next);
        for (int h = 0; h < now.breath.length; h++) {
            picture.add(now.breath[h]);
            picture.add(now.gives[h]);
            int score = now.score[h] + 100000;
            picture.add(score / 65536);
            picture.add(score / 256 % 256);
            picture.add(score % 256);
            for (int length : now.thinks[h]) {
                picture.add(length);
            }
        }
        picture.add(check(picture));
        return picture.size();
    }

    int octet(int k) {
        return not(0, k, picture.size() - 1) ? NONE : picture.get(k);
    }

    boolean goOn() {
        List<Integer> told = tape;
        tape = new ArrayList<>();
        State read = first(road);
        boolean fits = told.size() == 2 + read.breath.length * (5 + road.tunnels.size());
        if (fits) {
            fits = told.get(told.size() - 1) == check(told.subList(0, told.size() - 1));
            read.next = told.get(0);
            fits &= read.next == 0 || !noTunnel(read.next);
            int at = 1;
            for (int h = 0; h < read.breath.length; h++) {
                read.breath[h] = told.get(at++);
                read.gives[h] = told.get(at++);
                read.score[h] = told.get(at) * 65536 + told.get(at + 1) * 256 + told.get(at + 2) - 100000;
                at += 3;
                fits &= read.breath[h] <= 60 && read.gives[h] <= 60 && Math.abs(read.score[h]) <= 99999;
                for (int t = 0; t < road.tunnels.size(); t++) {
                    read.thinks[h][t] = told.get(at++);
                    fits &= read.thinks[h][t] <= 60;
                }
            }
        }
        if (!fits) {
            refuse(4);
            return false;
        }
        now = read;
        acts.clear();
        return true;
    }

    int status(int what) {
        return not(0, what, 4) ? NONE : refused[what];
    }
}
