import java.util.Arrays;

/** Tunnels, holders with breath, and what holding is worth: DOC.md has the promises that the methods keep. */
public final class BreathRoad {
    public static final int NONE = -1;
    public static final int NOTHING = -1000000000;

    private static final int MOST = 6;
    private static final int MOST_LENGTHS = 4;
    private static final int MOST_SECONDS = 60;
    private static final int MOST_STATEMENTS = 80;
    private static final int MOST_OPEN = 7;
    private static final int MOST_BYTES = 1600;
    private static final int MOST_KEPT = 48;
    private static final int MOST_UNDONE = 20;
    private static final int MOST_DRIVEN = 30;
    private static final int MOST_ON = 4;
    private static final int MOST_PACE = 4;
    private static final int MOST_ROUNDS = 12;
    private static final int MOST_FACES = 12;
    private static final int MOST_WORTH = 999;
    private static final int MOST_SCORE = 99999;
    private static final int MOST_RESULT = 1000000;
    private static final int SECONDS = MOST_SECONDS + 1;
    private static final int SCORE_SHIFT = 100000;
    private static final long SEED_BITS = 0x7fffffffL;

    private static final int REFUSED_TAPE = 0;
    private static final int REFUSED_ROAD = 1;
    private static final int REFUSED_ACT = 2;
    private static final int REFUSED_UNDO = 3;
    private static final int REFUSED_OTHER = 4;

    private static final int NO_ROAD = 1;
    private static final int NAME_TWICE = 2;
    private static final int NAME_UNFIT = 3;
    private static final int NUMBER_UNFIT = 4;
    private static final int TOO_DEEP = 5;
    private static final int TOO_MANY = 6;

    private static final int HELD = 0;
    private static final int LONG = 1;
    private static final int MADE = 2;
    private static final int LAST = 3;
    private static final int BEATEN = 4;
    private static final int BREATH = 5;
    private static final int GAP = 6;
    private static final int FACTS = 7;

    private final Tape tape = new Tape();
    private final State now = new State();
    private final History history = new History();
    private final Judge judge = new Judge(now, new Road());
    private final Chooser chooser = new Chooser(judge);
    private final Faces told = new Faces();
    private final Image picture = new Image();
    private final int[] refused = new int[5];
    private Road spare = new Road();
    private final Reader reader = new Reader(tape, spare);
    private int x = 1;

    public BreathRoad() {
    }

    public int feed(int a, int b, int c, int d, int e) {
        if (tape.size + 20 > MOST_BYTES) {
            return refuse(REFUSED_TAPE);
        }
        tape.addNumber(a);
        tape.addNumber(b);
        tape.addNumber(c);
        tape.addNumber(d);
        tape.addNumber(e);
        return tape.size;
    }

    public boolean end(int n) {
        if (n < 0 || n > tape.size) {
            refuse(REFUSED_TAPE);
            return false;
        }
        tape.size = n;
        return true;
    }

    public int road() {
        reader.begin(spare);
        for (int i = 0; i <= MOST_STATEMENTS && reader.comesToStatement(); i++) {
            reader.readStatement();
        }
        tape.size = 0;
        if (reader.fault != 0) {
            return refuse(REFUSED_ROAD);
        }
        Road read = spare;
        spare = judge.road;
        judge.road = read;
        now.begin(read);
        history.count = 0;
        told.count = 0;
        chooser.forget();
        return read.statements;
    }

    public int fault(int what) {
        switch (what) {
            case 0: return reader.fault;
            case 1: return reader.place;
            default: return NONE;
        }
    }

    public int has(int what) {
        switch (what) {
            case 0: return judge.road.tunnels;
            case 1: return judge.road.holders;
            case 2: return judge.road.seen;
            case 3: return judge.road.fine;
            case 4: return now.nextTunnel();
            case 5: return now.keptCount();
            case 6: return history.count;
            case 7: return x;
            default: return NONE;
        }
    }

    public int letter(int kind, int which, int k) {
        if (k < 0 || k >= Reader.MOST_LETTERS) {
            return NONE;
        }
        if (kind == 0 && judge.road.hasTunnel(which)) {
            return Reader.letterOf(valueAt(judge.road.tunnelNames, which), k);
        }
        if (kind == 1 && judge.road.hasHolder(which)) {
            return Reader.letterOf(valueAt(judge.road.holderNames, which), k);
        }
        return NONE;
    }

    public int tunnel(int tunnel, int what) {
        Road road = judge.road;
        if (!road.hasTunnel(tunnel)) {
            return NONE;
        }
        int lengths = road.lengthCount(tunnel);
        if (what >= 10 && what < 10 + lengths) {
            return road.lengthAt(tunnel, what - 10);
        }
        if (what >= 20 && what < 20 + lengths) {
            return road.weightAt(tunnel, what - 20);
        }
        switch (what) {
            case 0: return valueAt(road.gaps, tunnel);
            case 1: return lengths;
            case 2: return road.allWeights(tunnel);
            default: return NONE;
        }
    }

    public int holder(int holder, int what) {
        Road road = judge.road;
        if (!road.hasHolder(holder)) {
            return NONE;
        }
        if (what >= 10 && what < 10 + road.tunnels) {
            return now.thinksOf(holder, what - 10);
        }
        switch (what) {
            case 0: return now.breathOf(holder);
            case 1: return valueAt(road.breaths, holder);
            case 2: return valueAt(road.laughs, holder);
            case 3: return now.givesOf(holder);
            default: return NONE;
        }
    }

    public int score(int holder) {
        return judge.road.hasHolder(holder) ? now.scoreOf(holder) : NOTHING;
    }

    public int likely(int tunnel, int seconds) {
        Road road = judge.road;
        if (!road.hasTunnel(tunnel) || seconds < 0) {
            return NONE;
        }
        int longer = 0;
        for (int k = 0; k < road.lengthCount(tunnel); k++) {
            if (road.lengthAt(tunnel, k) > seconds) {
                longer += road.weightAt(tunnel, k);
            }
        }
        return thousandths(longer, road.allWeights(tunnel));
    }

    public int holds(int holder, int tunnel, int length) {
        if (!judge.road.hasBoth(holder, tunnel) || !isLength(length)) {
            return NONE;
        }
        return judge.secondsHeld(holder, tunnel, length);
    }

    public int made(int holder, int tunnel) {
        Road road = judge.road;
        if (!road.hasBoth(holder, tunnel)) {
            return NONE;
        }
        int all = 0;
        for (int k = 0; k < road.lengthCount(tunnel); k++) {
            int length = road.lengthAt(tunnel, k);
            if (judge.secondsHeld(holder, tunnel, length) == length) {
                all += road.weightAt(tunnel, k);
            }
        }
        return thousandths(all, road.allWeights(tunnel));
    }

    public int worth(int holder, int tunnel, int length) {
        if (!judge.road.hasBoth(holder, tunnel) || !isLength(length)) {
            return NOTHING;
        }
        judge.allHold(tunnel, length);
        return judge.worthAmong(holder, tunnel, length);
    }

    public int tired(int holder, int tunnel, int length, int held) {
        if (!judge.road.hasBoth(holder, tunnel) || !isLength(length)) {
            return NONE;
        }
        if (held < 0 || held > length) {
            return NONE;
        }
        return judge.tiredAlone(tunnel, length, held, now.breathOf(holder));
    }

    public int alone(int holder, int tunnel, int what) {
        if (!judge.road.hasBoth(holder, tunnel) || what < 0 || what > 1) {
            return NOTHING;
        }
        chooser.plan(tunnel, 1, now.breathOf(holder));
        return what == 0 ? chooser.planSecond : thousandths(chooser.planTotal, chooser.planWhole);
    }

    public int on(int holder, int n, int what) {
        int next = now.nextTunnel();
        if (!judge.road.hasBoth(holder, next) || n < 1 || n > MOST_ON || what < 0 || what > 1) {
            return NOTHING;
        }
        chooser.plan(next, n, now.breathOf(holder));
        return what == 0 ? chooser.planSecond : thousandths(chooser.planTotal, chooser.planWhole);
    }

    public int rest(int tunnel, int k) {
        if (!judge.road.hasTunnel(tunnel)) {
            return NONE;
        }
        if (k == NONE) {
            chooser.settle(tunnel);
            return chooser.settledRound;
        }
        if (!judge.road.hasHolder(k)) {
            return NONE;
        }
        chooser.settle(tunnel);
        return valueAt(chooser.settledSeconds, k);
    }

    public int hidden(int holder, int tunnel, int what) {
        if (!judge.road.hasBoth(holder, tunnel) || what < 0 || what > 1) {
            return NOTHING;
        }
        long unseen = chooser.hiddenTotal(holder, tunnel);
        if (what == 1) {
            return thousandths(unseen, 100L * judge.road.allWeights(tunnel));
        }
        chooser.plan(tunnel, 1, now.breathOf(holder));
        return unseen > 100L * chooser.planTotal ? 1 : 0;
    }

    public int pace(int tunnel, int holders, int what) {
        Road road = judge.road;
        if (!road.hasTunnel(tunnel) || holders < 0 || holders >= 1 << road.holders || what < 0 || what > 1) {
            return NONE;
        }
        int best = chooser.bestPace(tunnel, holders);
        if (what == 0) {
            return best;
        }
        return thousandths(chooser.paceWeights(tunnel, holders, best), road.allWeights(tunnel));
    }

    public int whom(int holder, int tunnel, int what) {
        if (!judge.road.hasBoth(holder, tunnel) || what < 0 || what > 1) {
            return NOTHING;
        }
        int best = chooser.bestToLaugh(holder, tunnel);
        if (what == 0) {
            return best;
        }
        return thousandths(chooser.totalAmong(holder, tunnel, best), judge.road.allWeights(tunnel));
    }

    public int faces(int tunnel) {
        boolean taken = told.take(tape, judge.road, tunnel);
        tape.size = 0;
        return taken ? told.count : refuse(REFUSED_OTHER);
    }

    public int fit(int what) {
        if (told.count == 0 || what < 0 || what > 2) {
            return NONE;
        }
        Road road = judge.road;
        int bits = 0;
        int weights = 0;
        for (int k = 0; k < road.lengthCount(told.tunnel); k++) {
            if (told.fitLength(judge, road.lengthAt(told.tunnel, k))) {
                bits |= 1 << k;
                weights += road.weightAt(told.tunnel, k);
            }
        }
        switch (what) {
            case 0: return Integer.bitCount(bits);
            case 1: return bits;
            default: return thousandths(weights, road.allWeights(told.tunnel));
        }
    }

    public int drive(int n) {
        if (n < 1 || n > MOST_DRIVEN || judge.road.tunnels == 0) {
            return refuse(REFUSED_ACT);
        }
        beginAct();
        int seconds = 0;
        for (int i = 0; i < n; i++) {
            seconds += driveThrough();
        }
        return seconds;
    }

    public int pause() {
        beginAct();
        Road road = judge.road;
        int more = 0;
        for (int h = 0; h < road.holders; h++) {
            int breath = valueAt(road.breaths, h);
            more += breath - now.breathOf(h);
            now.setBreath(h, breath);
        }
        return more;
    }

    public int believe(int holder, int tunnel, int length) {
        if (!judge.road.hasBoth(holder, tunnel) || !isSecond(length)) {
            return refuse(REFUSED_ACT);
        }
        beginAct();
        int before = now.thinksOf(holder, tunnel);
        now.setThinks(holder, tunnel, length);
        return before;
    }

    public int give(int holder, int seconds) {
        if (!judge.road.hasHolder(holder) || !isSecond(seconds)) {
            return refuse(REFUSED_ACT);
        }
        beginAct();
        int before = now.givesOf(holder);
        now.setGives(holder, seconds);
        return before;
    }

    public boolean undo() {
        if (history.count == 0) {
            refuse(REFUSED_UNDO);
            return false;
        }
        history.takeBack(now);
        chooser.forget();
        return true;
    }

    public boolean seed(int seed) {
        if (seed < 0) {
            refuse(REFUSED_OTHER);
            return false;
        }
        x = seed;
        return true;
    }

    public int kept(int k, int what) {
        if (k < 0 || k >= now.keptCount()) {
            return NONE;
        }
        return now.keptPart(k, what);
    }

    public int image() {
        picture.write(now, judge.road);
        return picture.size;
    }

    public int octet(int k) {
        return k >= 0 && k < picture.size ? picture.bytes[k] : NONE;
    }

    public boolean goOn() {
        boolean fits = Image.isOf(tape, judge.road);
        if (fits) {
            Image.putInto(tape, judge.road, now);
            history.count = 0;
            chooser.forget();
        } else {
            refuse(REFUSED_OTHER);
        }
        tape.size = 0;
        return fits;
    }

    public int status(int what) {
        return what >= 0 && what < refused.length ? refused[what] : NONE;
    }

    private int refuse(int kind) {
        if (kind >= 0 && kind < refused.length) {
            refused[kind]++;
        }
        return NONE;
    }

    private void beginAct() {
        history.add(now);
        chooser.forget();
    }

    private int driveThrough() {
        Road road = judge.road;
        int tunnel = now.nextTunnel();
        int length = drawLength(tunnel);
        int seconds = 0;
        for (int h = 0; h < road.holders; h++) {
            int held = drawHeld(valueAt(road.laughs, h), judge.secondsHeld(h, tunnel, length));
            setAt(judge.held, h, held);
            seconds += held;
        }
        for (int h = 0; h < road.holders; h++) {
            now.addScore(h, judge.worthAmong(h, tunnel, length));
            now.setBreath(h, judge.tiredAmong(h, tunnel, length));
            now.keep(tunnel, length, h, valueAt(judge.held, h));
        }
        now.setNextTunnel(tunnel + 1 < road.tunnels ? tunnel + 1 : 0);
        return seconds;
    }

    private int drawLength(int tunnel) {
        Road road = judge.road;
        int left = draw(road.allWeights(tunnel));
        int last = road.lengthCount(tunnel) - 1;
        for (int k = 0; k < last; k++) {
            left -= road.weightAt(tunnel, k);
            if (left < 0) {
                return road.lengthAt(tunnel, k);
            }
        }
        return road.lengthAt(tunnel, last);
    }

    private int drawHeld(int laughs, int holds) {
        if (laughs == 0) {
            return holds;
        }
        for (int second = 1; second <= holds; second++) {
            if (draw(100) < laughs) {
                return second - 1;
            }
        }
        return holds;
    }

    private int draw(int m) {
        x = (int) ((1103515245L * x + 12345L) & SEED_BITS);
        return m > 0 ? x / 64 % m : 0;
    }

    private static boolean isLength(int length) {
        return length >= 1 && length <= MOST_SECONDS;
    }

    private static boolean isSecond(int second) {
        return second >= 0 && second <= MOST_SECONDS;
    }

    private static int thousandths(long part, long whole) {
        return whole > 0 ? (int) Math.floorDiv(1000L * part, whole) : 0;
    }

    private static int within(int value, int least, int most) {
        return Math.max(least, Math.min(most, value));
    }

    /** 0 where there is no such place: an index is looked at here, whoever looked at it ahead of this. */
    private static int valueAt(int[] row, int k) {
        return k >= 0 && k < row.length ? row[k] : 0;
    }

    private static long valueAt(long[] row, int k) {
        return k >= 0 && k < row.length ? row[k] : 0;
    }

    private static void setAt(int[] row, int k, int value) {
        if (k >= 0 && k < row.length) {
            row[k] = value;
        }
    }

    private static void setAt(long[] row, int k, long value) {
        if (k >= 0 && k < row.length) {
            row[k] = value;
        }
    }

    /** The bytes that were fed and not yet used. */
    private static final class Tape {
        final byte[] bytes = new byte[MOST_BYTES];
        int size = 0;

        void addNumber(int number) {
            for (int shift = 24; shift >= 0; shift -= 8) {
                if (size < bytes.length) {
                    bytes[size] = (byte) (number >> shift);
                    size++;
                }
            }
        }

        int byteAt(int k) {
            return k >= 0 && k < size ? bytes[k] & 255 : 0;
        }
    }

    /** What a text told, as it was at first. */
    private static final class Road {
        int statements = 0;
        int tunnels = 0;
        int holders = 0;
        int seen = 0;
        int fine = 0;
        final int[] tunnelNames = new int[MOST];
        final int[] gaps = new int[MOST];
        final int[] lengthCounts = new int[MOST];
        final int[] lengths = new int[MOST * MOST_LENGTHS];
        final int[] weights = new int[MOST * MOST_LENGTHS];
        final int[] holderNames = new int[MOST];
        final int[] breaths = new int[MOST];
        final int[] laughs = new int[MOST];
        final int[] gives = new int[MOST];
        final int[] thinks = new int[MOST * MOST];
        final Sums sums = new Sums();

        void clear() {
            statements = 0;
            tunnels = 0;
            holders = 0;
            seen = 0;
            fine = 0;
            Arrays.fill(lengthCounts, 0);
            Arrays.fill(gives, MOST_SECONDS);
            Arrays.fill(thinks, 0);
            sums.clear();
        }

        boolean hasTunnel(int tunnel) {
            return tunnel >= 0 && tunnel < tunnels;
        }

        boolean hasHolder(int holder) {
            return holder >= 0 && holder < holders;
        }

        boolean hasBoth(int holder, int tunnel) {
            return hasHolder(holder) && hasTunnel(tunnel);
        }

        int lengthCount(int tunnel) {
            return valueAt(lengthCounts, tunnel);
        }

        int lengthAt(int tunnel, int k) {
            return valueAt(lengths, tunnel * MOST_LENGTHS + k);
        }

        int weightAt(int tunnel, int k) {
            return valueAt(weights, tunnel * MOST_LENGTHS + k);
        }

        boolean hasLength(int tunnel, int length) {
            for (int k = 0; k < lengthCount(tunnel); k++) {
                if (lengthAt(tunnel, k) == length) {
                    return true;
                }
            }
            return false;
        }

        int allWeights(int tunnel) {
            int all = 0;
            for (int k = 0; k < lengthCount(tunnel); k++) {
                all += weightAt(tunnel, k);
            }
            return all;
        }

        int tunnelNamed(int name) {
            return find(tunnelNames, tunnels, name);
        }

        int holderNamed(int name) {
            return find(holderNames, holders, name);
        }

        static int find(int[] names, int count, int name) {
            for (int i = 0; i < count && i < names.length; i++) {
                if (names[i] == name) {
                    return i;
                }
            }
            return NONE;
        }
    }

    /** The two SUMS of a road as codes for a stack: operands first, then what joins them. */
    private static final class Sums {
        static final int WORTH = 0;
        static final int TIRES = 1;
        static final int NUMBER = 1;
        static final int FACT = 2;
        static final int UNLESS = 3;
        static final int SKIP = 4;
        static final int NOT = 5;
        static final int AND = 6;
        static final int OR = 7;
        static final int MIN = 8;
        static final int MAX = 9;
        // Above every op, the signs' own bytes among them.
        private static final int OPS = 64;

        private final int[] codes = new int[MOST_BYTES];
        // Seven open at once pile up 38 at the most.
        private final int[] stack = new int[64];
        private int top = 0;
        int size = 0;
        final int[] begins = new int[2];
        final int[] ends = new int[2];

        void clear() {
            size = 0;
            Arrays.fill(begins, 0);
            Arrays.fill(ends, 0);
        }

        int add(int op, int number) {
            if (size < codes.length) {
                codes[size] = number * OPS + op;
                size++;
            }
            return size - 1;
        }

        /** A jump is told where it goes once what it jumps over is read. */
        void landHere(int jump) {
            if (jump >= 0 && jump < size) {
                codes[jump] = size * OPS + codes[jump] % OPS;
            }
        }

        boolean isTold(int which) {
            return valueAt(ends, which) > valueAt(begins, which);
        }

        /** 0 for a sum that is not told. */
        int valueOf(int which, int[] facts) {
            int behind = Math.min(valueAt(ends, which), codes.length);
            top = 0;
            for (int at = Math.max(0, valueAt(begins, which)); at < behind; at++) {
                int op = codes[at] % OPS;
                int number = codes[at] / OPS;
                if (op == NUMBER) {
                    push(number);
                } else if (op == FACT) {
                    push(valueAt(facts, number));
                } else if (op == SKIP || op == UNLESS && pop() == 0) {
                    at = Math.max(at, number - 1);
                } else if (op == NOT) {
                    push(1 - pop());
                } else if (op != UNLESS) {
                    int right = pop();
                    push(bounded(joined(op, pop(), right)));
                }
            }
            return pop();
        }

        private void push(int value) {
            if (top < stack.length) {
                stack[top] = value;
                top++;
            }
        }

        private int pop() {
            if (top <= 0) {
                return 0;
            }
            top--;
            return stack[top];
        }

        private static long joined(int op, int left, int right) {
            switch (op) {
                case '+': return (long) left + right;
                case '-': return (long) left - right;
                case '*': return (long) left * right;
                case '/': return right == 0 ? 0 : Math.floorDiv(left, right);
                case '%': return right == 0 ? 0 : Math.floorMod(left, right);
                case '<': return left < right ? 1 : 0;
                case '>': return left > right ? 1 : 0;
                case '=': return left == right ? 1 : 0;
                case AND: return left & right;
                case OR: return left | right;
                case MIN: return Math.min(left, right);
                case MAX: return Math.max(left, right);
                default: return 0;
            }
        }

        private static int bounded(long value) {
            if (value > MOST_RESULT) {
                return MOST_RESULT;
            }
            return value < -MOST_RESULT ? -MOST_RESULT : (int) value;
        }
    }

    /** Reads a text into a road; behind the first fault nothing more is read. */
    private static final class Reader {
        static final int MOST_LETTERS = 6;
        private static final int MOST_DIGITS = 4;
        private static final String SIGNS = ";()[],+-*/%<>=";
        private static final String OWN_WORDS =
            "tunnel gap at weighs holder breath laughs thinks gives worth tires seen fine held long made last beaten if or and not all min max ";
        private static final int OWN_COUNT = 25;

        private static final int TUNNEL = 0;
        private static final int GAP_WORD = 1;
        private static final int AT = 2;
        private static final int WEIGHS = 3;
        private static final int HOLDER = 4;
        private static final int BREATH_WORD = 5;
        private static final int LAUGHS = 6;
        private static final int THINKS = 7;
        private static final int GIVES = 8;
        private static final int WORTH = 9;
        private static final int TIRES = 10;
        private static final int SEEN = 11;
        private static final int FINE = 12;
        private static final int HELD_WORD = 13;
        private static final int BEATEN_WORD = 17;
        private static final int IF = 18;
        private static final int OR = 19;
        private static final int AND = 20;
        private static final int NOT = 21;
        private static final int ALL = 22;
        private static final int MIN = 23;
        private static final int MAX = 24;

        // Kinds of tokens; a sign's kind is its own byte, which is above these.
        private static final int START = 0;
        private static final int END = 1;
        private static final int WORD = 2;
        private static final int NUMBER = 3;
        private static final int BROKEN = 4;

        private final int[] ownWords = new int[OWN_COUNT];
        private final Tape text;
        private Road road;
        private int at = 0;
        private int from = 0;
        private int token = START;
        private int ownWord = NONE;
        private int name = 0;
        private int number = 0;
        int fault = 0;
        int place = NONE;

        Reader(Tape tape, Road into) {
            text = tape;
            road = into;
            int count = 0;
            int letters = 0;
            int packed = 0;
            for (int i = 0; i < OWN_WORDS.length(); i++) {
                char sign = OWN_WORDS.charAt(i);
                if (sign != ' ') {
                    packed = withLetter(packed, letters, sign);
                    letters++;
                } else if (count < OWN_COUNT) {
                    ownWords[count] = packed;
                    count++;
                    packed = 0;
                    letters = 0;
                }
            }
        }

        /** Five bits a letter, the first one highest, so that no two words are packed alike. */
        private static int withLetter(int packed, int k, int letter) {
            return packed | (letter - 'a' + 1) << 5 * (MOST_LETTERS - 1 - k);
        }

        static int letterOf(int packed, int k) {
            return packed >> 5 * (MOST_LETTERS - 1 - k) & 31;
        }

        void begin(Road into) {
            road = into;
            road.clear();
            at = 0;
            fault = 0;
            place = NONE;
        }

        private void fail(int kind, int where) {
            if (fault == 0) {
                fault = kind;
                place = where;
            }
            token = BROKEN;
            ownWord = NONE;
        }

        // ---- words, numbers, signs

        private void advance() {
            if (token == BROKEN) {
                return;
            }
            // Ahead of reading what stands there: its own 7th letter or 5th digit would be further along.
            if (isSideBySide()) {
                fail(NO_ROAD, at);
                return;
            }
            skipBlanks();
            from = at;
            ownWord = NONE;
            if (at >= text.size) {
                token = END;
            } else if (isLetter(text.byteAt(at))) {
                scanWord();
            } else if (isDigit(text.byteAt(at))) {
                scanNumber();
            } else {
                scanSign();
            }
        }

        /** A word or a number right behind the one that was read last. */
        private boolean isSideBySide() {
            int next = text.byteAt(at);
            return (token == WORD || token == NUMBER) && (isLetter(next) || isDigit(next));
        }

        private void skipBlanks() {
            while (at < text.size && (text.byteAt(at) == 10 || text.byteAt(at) == 32)) {
                at++;
            }
        }

        private void scanWord() {
            token = WORD;
            name = 0;
            for (; at < text.size && isLetter(text.byteAt(at)); at++) {
                if (at - from == MOST_LETTERS) {
                    fail(NO_ROAD, at);
                    return;
                }
                name = withLetter(name, at - from, text.byteAt(at));
            }
            ownWord = Road.find(ownWords, OWN_COUNT, name);
        }

        private void scanNumber() {
            token = NUMBER;
            number = 0;
            for (; at < text.size && isDigit(text.byteAt(at)); at++) {
                if (at - from == MOST_DIGITS) {
                    fail(NO_ROAD, at);
                    return;
                }
                number = 10 * number + text.byteAt(at) - '0';
            }
        }

        private void scanSign() {
            int sign = text.byteAt(at);
            if (SIGNS.indexOf((char) sign) < 0) {
                fail(NO_ROAD, at);
                return;
            }
            token = sign;
            at++;
        }

        private static boolean isLetter(int octet) {
            return octet >= 'a' && octet <= 'z';
        }

        private static boolean isDigit(int octet) {
            return octet >= '0' && octet <= '9';
        }

        // ---- what must stand next

        private void takeSign(int sign) {
            if (token == sign) {
                advance();
            } else {
                fail(NO_ROAD, from);
            }
        }

        private void takeWord(int word) {
            if (ownWord == word) {
                advance();
            } else {
                fail(NO_ROAD, from);
            }
        }

        private int takeNumber(int least, int most) {
            int taken = number;
            if (token != NUMBER) {
                fail(NO_ROAD, from);
            } else if (number < least || number > most) {
                fail(NUMBER_UNFIT, from);
            }
            advance();
            return taken;
        }

        private int takeNewName() {
            int taken = name;
            if (!isName()) {
                fail(NO_ROAD, from);
            } else if (road.tunnelNamed(name) != NONE || road.holderNamed(name) != NONE) {
                fail(NAME_TWICE, from);
            }
            advance();
            return taken;
        }

        private int takeHolder() {
            int holder = isName() ? road.holderNamed(name) : NONE;
            takeKnownName(holder);
            return holder;
        }

        private int takeTunnel() {
            int tunnel = isName() ? road.tunnelNamed(name) : NONE;
            takeKnownName(tunnel);
            return tunnel;
        }

        private void takeKnownName(int which) {
            if (!isName()) {
                fail(NO_ROAD, from);
            } else if (which == NONE) {
                fail(NAME_UNFIT, from);
            }
            advance();
        }

        private boolean isName() {
            return token == WORD && ownWord == NONE;
        }

        // ---- statements

        /** Stops at a statement's first byte and reads nothing of it: one too many is that whatever it is. */
        boolean comesToStatement() {
            skipBlanks();
            return fault == 0 && at < text.size;
        }

        void readStatement() {
            if (road.statements >= MOST_STATEMENTS) {
                fail(TOO_MANY, at);
                return;
            }
            token = START;
            advance();
            switch (ownWord) {
                case TUNNEL: readTunnel(); break;
                case HOLDER: readHolder(); break;
                case THINKS: readThinks(); break;
                case GIVES: readGives(); break;
                case WORTH: readTold(Sums.WORTH); break;
                case TIRES: readTold(Sums.TIRES); break;
                case SEEN: advance(); road.seen = takeNumber(0, 100); break;
                case FINE: advance(); road.fine = takeNumber(0, 999); break;
                default: fail(NO_ROAD, from); break;
            }
            if (token != ';') {
                fail(NO_ROAD, from);
            }
            road.statements++;
        }

        private void readTunnel() {
            if (road.tunnels >= MOST) {
                fail(TOO_MANY, from);
                return;
            }
            int tunnel = road.tunnels;
            advance();
            setAt(road.tunnelNames, tunnel, takeNewName());
            takeWord(GAP_WORD);
            setAt(road.gaps, tunnel, takeNumber(0, 99));
            readLength(tunnel);
            for (int k = 1; k <= MOST_LENGTHS && ownWord == AT; k++) {
                readLength(tunnel);
            }
            road.tunnels++;
        }

        private void readLength(int tunnel) {
            int k = road.lengthCount(tunnel);
            if (k >= MOST_LENGTHS) {
                fail(TOO_MANY, from);
                return;
            }
            takeWord(AT);
            if (token == NUMBER && road.hasLength(tunnel, number)) {
                fail(NUMBER_UNFIT, from);
            }
            setAt(road.lengths, tunnel * MOST_LENGTHS + k, takeNumber(1, MOST_SECONDS));
            takeWord(WEIGHS);
            setAt(road.weights, tunnel * MOST_LENGTHS + k, takeNumber(1, 9));
            setAt(road.lengthCounts, tunnel, k + 1);
        }

        private void readHolder() {
            if (road.holders >= MOST) {
                fail(TOO_MANY, from);
                return;
            }
            int holder = road.holders;
            advance();
            setAt(road.holderNames, holder, takeNewName());
            takeWord(BREATH_WORD);
            setAt(road.breaths, holder, takeNumber(1, MOST_SECONDS));
            takeWord(LAUGHS);
            setAt(road.laughs, holder, takeNumber(0, 50));
            road.holders++;
        }

        private void readThinks() {
            advance();
            int holder = takeHolder();
            int tunnel = takeTunnel();
            int length = takeNumber(1, MOST_SECONDS);
            if (road.hasBoth(holder, tunnel)) {
                setAt(road.thinks, holder * MOST + tunnel, length);
            }
        }

        private void readGives() {
            advance();
            int holder = takeHolder();
            int second = takeNumber(0, MOST_SECONDS);
            if (road.hasHolder(holder)) {
                setAt(road.gives, holder, second);
            }
        }

        private void readTold(int which) {
            if (road.sums.isTold(which)) {
                fail(TOO_MANY, from);
                return;
            }
            advance();
            setAt(road.sums.begins, which, road.sums.size);
            readSum(0);
            setAt(road.sums.ends, which, road.sums.size);
        }

        // ---- sums and tests; open tells how many ( [ not are open

        private void readSum(int open) {
            readProduct(open);
            for (int i = 0; i < MOST_BYTES && (token == '+' || token == '-'); i++) {
                int sign = token;
                advance();
                readProduct(open);
                road.sums.add(sign, 0);
            }
        }

        private void readProduct(int open) {
            readPart(open);
            for (int i = 0; i < MOST_BYTES && (token == '*' || token == '/' || token == '%'); i++) {
                int sign = token;
                advance();
                readPart(open);
                road.sums.add(sign, 0);
            }
        }

        private void readPart(int open) {
            if (token == NUMBER) {
                road.sums.add(Sums.NUMBER, number);
                advance();
            } else if (factOf(ownWord) != NONE) {
                road.sums.add(Sums.FACT, factOf(ownWord));
                advance();
            } else if (token == '(') {
                if (isOpened('(', open)) {
                    readSum(open + 1);
                    takeSign(')');
                }
            } else if (ownWord == IF) {
                readIf(open);
            } else if (ownWord == MIN) {
                readPair(Sums.MIN, open);
            } else if (ownWord == MAX) {
                readPair(Sums.MAX, open);
            } else {
                fail(NO_ROAD, from);
            }
        }

        private static int factOf(int word) {
            if (word >= HELD_WORD && word <= BEATEN_WORD) {
                return HELD + word - HELD_WORD;
            }
            if (word == BREATH_WORD) {
                return BREATH;
            }
            return word == GAP_WORD ? GAP : NONE;
        }

        private void readIf(int open) {
            advance();
            if (!isOpened('(', open)) {
                return;
            }
            readTest(open + 1);
            takeSign(',');
            int unless = road.sums.add(Sums.UNLESS, 0);
            readSum(open + 1);
            takeSign(',');
            int skip = road.sums.add(Sums.SKIP, 0);
            road.sums.landHere(unless);
            readSum(open + 1);
            takeSign(')');
            road.sums.landHere(skip);
        }

        private void readPair(int op, int open) {
            advance();
            if (!isOpened('(', open)) {
                return;
            }
            readSum(open + 1);
            takeSign(',');
            readSum(open + 1);
            takeSign(')');
            road.sums.add(op, 0);
        }

        private boolean isOpened(int sign, int open) {
            if (token != sign) {
                fail(NO_ROAD, from);
                return false;
            }
            if (open >= MOST_OPEN) {
                fail(TOO_DEEP, from);
                return false;
            }
            advance();
            return true;
        }

        private void readTest(int open) {
            readBoth(open);
            for (int i = 0; i < MOST_BYTES && ownWord == OR; i++) {
                advance();
                readBoth(open);
                road.sums.add(Sums.OR, 0);
            }
        }

        private void readBoth(int open) {
            readFact(open);
            for (int i = 0; i < MOST_BYTES && ownWord == AND; i++) {
                advance();
                readFact(open);
                road.sums.add(Sums.AND, 0);
            }
        }

        private void readFact(int open) {
            if (ownWord == NOT) {
                readNot(open);
            } else if (token == '[') {
                if (isOpened('[', open)) {
                    readTest(open + 1);
                    takeSign(']');
                }
            } else if (ownWord == ALL) {
                road.sums.add(Sums.NUMBER, 1);
                advance();
            } else {
                readCompared(open);
            }
        }

        private void readNot(int open) {
            if (open >= MOST_OPEN) {
                fail(TOO_DEEP, from);
                return;
            }
            advance();
            readFact(open + 1);
            road.sums.add(Sums.NOT, 0);
        }

        private void readCompared(int open) {
            readSum(open);
            int sign = token;
            if (sign != '<' && sign != '>' && sign != '=') {
                fail(NO_ROAD, from);
                return;
            }
            advance();
            readSum(open);
            road.sums.add(sign, 0);
        }
    }

    /** All that acts change but the seed, in one row, so that it is kept and brought back by one copy. */
    private static final class State {
        private static final int NEXT = 0;
        private static final int KEPT_EVER = 1;
        private static final int KEPT = 2;
        private static final int BREATHS = KEPT + MOST_KEPT;
        private static final int GIVES = BREATHS + MOST;
        private static final int SCORES = GIVES + MOST;
        private static final int THINKS = SCORES + MOST;
        static final int SIZE = THINKS + MOST * MOST;

        final int[] row = new int[SIZE];

        void begin(Road road) {
            row[NEXT] = 0;
            row[KEPT_EVER] = 0;
            for (int h = 0; h < MOST; h++) {
                row[BREATHS + h] = road.breaths[h];
                row[GIVES + h] = road.gives[h];
                row[SCORES + h] = 0;
            }
            System.arraycopy(road.thinks, 0, row, THINKS, MOST * MOST);
        }

        int nextTunnel() {
            return row[NEXT];
        }

        void setNextTunnel(int tunnel) {
            row[NEXT] = tunnel;
        }

        int breathOf(int holder) {
            return valueAt(row, BREATHS + holder);
        }

        void setBreath(int holder, int breath) {
            setAt(row, BREATHS + holder, breath);
        }

        int givesOf(int holder) {
            return valueAt(row, GIVES + holder);
        }

        void setGives(int holder, int second) {
            setAt(row, GIVES + holder, second);
        }

        int scoreOf(int holder) {
            return valueAt(row, SCORES + holder);
        }

        void setScore(int holder, int score) {
            setAt(row, SCORES + holder, score);
        }

        void addScore(int holder, int worth) {
            setScore(holder, within(scoreOf(holder) + worth, -MOST_SCORE, MOST_SCORE));
        }

        int thinksOf(int holder, int tunnel) {
            return valueAt(row, THINKS + holder * MOST + tunnel);
        }

        void setThinks(int holder, int tunnel, int length) {
            setAt(row, THINKS + holder * MOST + tunnel, length);
        }

        /** Four parts in one number, a byte each. */
        void keep(int tunnel, int length, int holder, int held) {
            setAt(row, KEPT + row[KEPT_EVER] % MOST_KEPT, tunnel << 24 | length << 16 | holder << 8 | held);
            row[KEPT_EVER]++;
            // Counts on from one full ring again, so that it never grows too great.
            if (row[KEPT_EVER] == 2 * MOST_KEPT) {
                row[KEPT_EVER] = MOST_KEPT;
            }
        }

        void keepNothing() {
            row[KEPT_EVER] = 0;
        }

        int keptCount() {
            return Math.min(MOST_KEPT, row[KEPT_EVER]);
        }

        int keptPart(int k, int part) {
            if (part < 0 || part > 3) {
                return NONE;
            }
            int which = (row[KEPT_EVER] - keptCount() + k) % MOST_KEPT;
            return valueAt(row, KEPT + which) >> 24 - 8 * part & 255;
        }
    }

    /** The states ahead of the latest acts, in a ring. */
    private static final class History {
        private final int[] rows = new int[MOST_UNDONE * State.SIZE];
        private int free = 0;
        int count = 0;

        void add(State state) {
            System.arraycopy(state.row, 0, rows, free * State.SIZE, State.SIZE);
            free = (free + 1) % MOST_UNDONE;
            count = Math.min(MOST_UNDONE, count + 1);
        }

        void takeBack(State state) {
            free = (free + MOST_UNDONE - 1) % MOST_UNDONE;
            count--;
            System.arraycopy(rows, free * State.SIZE, state.row, 0, State.SIZE);
        }
    }

    /** What holders hold, what that is worth and how it tires them. */
    private static final class Judge {
        Road road;
        final State now;
        final int[] held = new int[MOST];
        private final int[] facts = new int[FACTS];

        Judge(State now, Road road) {
            this.now = now;
            this.road = road;
        }

        int secondsHeld(int holder, int tunnel, int length) {
            int most = Math.min(now.breathOf(holder), now.givesOf(holder));
            return now.thinksOf(holder, tunnel) > most ? 0 : Math.min(length, most);
        }

        void allHold(int tunnel, int length) {
            for (int h = 0; h < road.holders; h++) {
                setAt(held, h, secondsHeld(h, tunnel, length));
            }
        }

        int madeBits(int tunnel, int length) {
            int bits = 0;
            for (int h = 0; h < road.holders; h++) {
                if (secondsHeld(h, tunnel, length) == length) {
                    bits |= 1 << h;
                }
            }
            return bits;
        }

        int worthAlone(int tunnel, int length, int seconds, int breath) {
            tellAlone(tunnel, length, seconds, breath);
            return within(road.sums.valueOf(Sums.WORTH, facts), -MOST_WORTH, MOST_WORTH);
        }

        int worthAmong(int holder, int tunnel, int length) {
            tellAmong(holder, tunnel, length);
            return within(road.sums.valueOf(Sums.WORTH, facts), -MOST_WORTH, MOST_WORTH);
        }

        int tiredAlone(int tunnel, int length, int seconds, int breath) {
            if (!road.sums.isTold(Sums.TIRES)) {
                return breath;
            }
            tellAlone(tunnel, length, seconds, breath);
            return within(road.sums.valueOf(Sums.TIRES, facts), 0, MOST_SECONDS);
        }

        int tiredAmong(int holder, int tunnel, int length) {
            if (!road.sums.isTold(Sums.TIRES)) {
                return now.breathOf(holder);
            }
            tellAmong(holder, tunnel, length);
            return within(road.sums.valueOf(Sums.TIRES, facts), 0, MOST_SECONDS);
        }

        private void tellAlone(int tunnel, int length, int seconds, int breath) {
            facts[HELD] = seconds;
            facts[LONG] = length;
            facts[MADE] = seconds == length ? 1 : 0;
            facts[LAST] = 1;
            facts[BEATEN] = 0;
            facts[BREATH] = breath;
            facts[GAP] = valueAt(road.gaps, tunnel);
        }

        private void tellAmong(int holder, int tunnel, int length) {
            int own = valueAt(held, holder);
            tellAlone(tunnel, length, own, now.breathOf(holder));
            for (int h = 0; h < road.holders; h++) {
                int other = valueAt(held, h);
                if (other > own) {
                    facts[LAST] = 0;
                }
                if (other < own) {
                    facts[BEATEN]++;
                }
            }
        }
    }

    /** What is best; means are totals over all weights, so that no division blurs which is more. */
    private static final class Chooser {
        // Far below any total: 999 in each of four tunnels, times all weights of all four.
        private static final long UNKNOWN = -1000000000000000L;

        private final Judge judge;
        private final long[] totals = new long[MOST_ON * SECONDS];
        private final long[] bests = new long[MOST_ON * SECONDS];
        private final long[] wholes = new long[MOST_ON + 1];
        private int plannedTunnel = NONE;
        private int plannedCount = 0;
        private int plannedBreath = 0;
        int planSecond = 0;
        long planTotal = 0;
        long planWhole = 1;
        private int settledTunnel = NONE;
        final int[] settledSeconds = new int[MOST];
        int settledRound = 0;

        Chooser(Judge judge) {
            this.judge = judge;
        }

        /** The latest plan and rest are kept for the next question, until anything changes. */
        void forget() {
            plannedTunnel = NONE;
            settledTunnel = NONE;
        }

        // ---- ALONE and ON: ALONE is ON over just that tunnel

        void plan(int tunnel, int n, int breath) {
            if (plannedTunnel == tunnel && plannedCount == n && plannedBreath == breath) {
                return;
            }
            plannedTunnel = tunnel;
            plannedCount = n;
            plannedBreath = breath;
            setAt(wholes, n, 1);
            for (int stage = n - 1; stage >= 0; stage--) {
                setAt(wholes, stage, valueAt(wholes, stage + 1) * judge.road.allWeights(tunnelAt(stage)));
            }
            Arrays.fill(bests, UNKNOWN);
            planTotal = bestFrom(0, breath);
            planWhole = valueAt(wholes, 0);
            planSecond = bestSecond(0, breath);
        }

        private int tunnelAt(int stage) {
            int tunnels = judge.road.tunnels;
            return tunnels > 0 ? (plannedTunnel + stage) % tunnels : 0;
        }

        private long bestFrom(int stage, int breath) {
            if (stage >= plannedCount) {
                return 0;
            }
            int row = stage * SECONDS;
            if (valueAt(bests, row + breath) == UNKNOWN) {
                clearTotals(row);
                int lengths = judge.road.lengthCount(tunnelAt(stage));
                for (int k = 0; k < lengths; k++) {
                    addPlanned(stage, k, breath);
                }
                setAt(bests, row + breath, valueAt(totals, row + bestSecond(row, breath)));
            }
            return valueAt(bests, row + breath);
        }

        private void clearTotals(int row) {
            for (int second = 0; second < SECONDS; second++) {
                setAt(totals, row + second, 0);
            }
        }

        private void addPlanned(int stage, int k, int breath) {
            int tunnel = tunnelAt(stage);
            int length = judge.road.lengthAt(tunnel, k);
            int weight = judge.road.weightAt(tunnel, k);
            boolean goesOn = stage + 1 < plannedCount;
            for (int held = 0; held <= Math.min(length, breath); held++) {
                long total = judge.worthAlone(tunnel, length, held, breath) * valueAt(wholes, stage + 1);
                if (goesOn) {
                    total += bestFrom(stage + 1, judge.tiredAlone(tunnel, length, held, breath));
                }
                addToSeconds(stage * SECONDS, held, held == length ? breath : held, weight * total);
            }
        }

        /** Whoever gives up behind the tunnel's end holds just its length. */
        private void addToSeconds(int row, int first, int last, long total) {
            for (int second = first; second <= last; second++) {
                setAt(totals, row + second, valueAt(totals, row + second) + total);
            }
        }

        private int bestSecond(int row, int breath) {
            int best = 0;
            long most = valueAt(totals, row);
            for (int second = 1; second <= breath; second++) {
                long total = valueAt(totals, row + second);
                if (total > most) {
                    most = total;
                    best = second;
                }
            }
            return best;
        }

        // ---- AT REST

        void settle(int tunnel) {
            if (settledTunnel == tunnel) {
                return;
            }
            settledTunnel = tunnel;
            for (int h = 0; h < judge.road.holders; h++) {
                setAt(settledSeconds, h, judge.now.breathOf(h));
            }
            settledRound = MOST_ROUNDS + 1;
            for (int round = 1; round <= MOST_ROUNDS; round++) {
                if (!isAnyMoved(tunnel)) {
                    settledRound = round;
                    return;
                }
            }
        }

        private boolean isAnyMoved(int tunnel) {
            boolean moved = false;
            for (int h = 0; h < judge.road.holders; h++) {
                int breath = judge.now.breathOf(h);
                fillAgainstOthers(h, tunnel, breath);
                int best = bestSecond(0, breath);
                if (valueAt(totals, best) > valueAt(totals, valueAt(settledSeconds, h))) {
                    setAt(settledSeconds, h, best);
                    moved = true;
                }
            }
            return moved;
        }

        private void fillAgainstOthers(int holder, int tunnel, int breath) {
            clearTotals(0);
            for (int k = 0; k < judge.road.lengthCount(tunnel); k++) {
                int length = judge.road.lengthAt(tunnel, k);
                long weight = judge.road.weightAt(tunnel, k);
                for (int h = 0; h < judge.road.holders; h++) {
                    setAt(judge.held, h, Math.min(length, valueAt(settledSeconds, h)));
                }
                for (int held = 0; held <= Math.min(length, breath); held++) {
                    setAt(judge.held, holder, held);
                    long total = weight * judge.worthAmong(holder, tunnel, length);
                    addToSeconds(0, held, held == length ? breath : held, total);
                }
            }
        }

        // ---- HIDDEN, PACE, WHOM

        /** Over all weights times 100. */
        long hiddenTotal(int holder, int tunnel) {
            Road road = judge.road;
            int breath = judge.now.breathOf(holder);
            long total = 0;
            for (int k = 0; k < road.lengthCount(tunnel); k++) {
                int length = road.lengthAt(tunnel, k);
                long unseen = (100L - road.seen) * judge.worthAlone(tunnel, length, length, breath);
                total += road.weightAt(tunnel, k) * (unseen - (long) road.seen * road.fine);
            }
            return total;
        }

        int bestPace(int tunnel, int holders) {
            int best = 1;
            int most = paceWeights(tunnel, holders, 1);
            for (int pace = 2; pace <= MOST_PACE; pace++) {
                int weights = paceWeights(tunnel, holders, pace);
                if (weights > most) {
                    most = weights;
                    best = pace;
                }
            }
            return best;
        }

        int paceWeights(int tunnel, int holders, int pace) {
            int weights = 0;
            for (int k = 0; pace > 0 && k < judge.road.lengthCount(tunnel); k++) {
                int length = Math.max(1, judge.road.lengthAt(tunnel, k) / pace);
                if (judge.madeBits(tunnel, length) == holders) {
                    weights += judge.road.weightAt(tunnel, k);
                }
            }
            return weights;
        }

        int bestToLaugh(int holder, int tunnel) {
            int best = NONE;
            long most = totalAmong(holder, tunnel, NONE);
            for (int other = 0; other < judge.road.holders; other++) {
                if (other != holder) {
                    long total = totalAmong(holder, tunnel, other);
                    if (total > most) {
                        most = total;
                        best = other;
                    }
                }
            }
            return best;
        }

        long totalAmong(int holder, int tunnel, int laughing) {
            long total = 0;
            for (int k = 0; k < judge.road.lengthCount(tunnel); k++) {
                int length = judge.road.lengthAt(tunnel, k);
                judge.allHold(tunnel, length);
                if (judge.road.hasHolder(laughing)) {
                    setAt(judge.held, laughing, 0);
                }
                total += (long) judge.road.weightAt(tunnel, k) * judge.worthAmong(holder, tunnel, length);
            }
            return total;
        }
    }

    /** Rows of a holder and what he held in one tunnel; none are told while count is 0. */
    private static final class Faces {
        private final int[] holders = new int[MOST_FACES];
        private final int[] seconds = new int[MOST_FACES];
        int tunnel = 0;
        int count = 0;

        boolean take(Tape tape, Road road, int ofTunnel) {
            int rows = tape.size / 2;
            if (!road.hasTunnel(ofTunnel) || tape.size % 2 != 0 || rows < 1 || rows > MOST_FACES) {
                return false;
            }
            for (int i = 0; i < rows; i++) {
                if (!road.hasHolder(tape.byteAt(2 * i)) || !isSecond(tape.byteAt(2 * i + 1))) {
                    return false;
                }
            }
            for (int i = 0; i < rows; i++) {
                holders[i] = tape.byteAt(2 * i);
                seconds[i] = tape.byteAt(2 * i + 1);
            }
            tunnel = ofTunnel;
            count = rows;
            return true;
        }

        boolean fitLength(Judge judge, int length) {
            for (int i = 0; i < count; i++) {
                if (judge.secondsHeld(valueAt(holders, i), tunnel, length) != valueAt(seconds, i)) {
                    return false;
                }
            }
            return true;
        }
    }

    /** A state as bytes, closed by a check byte. */
    private static final class Image {
        private static final int MOST_SIZE = 2 + MOST * (5 + MOST);

        final int[] bytes = new int[MOST_SIZE];
        int size = 0;

        void write(State state, Road road) {
            size = 0;
            addByte(state.nextTunnel());
            for (int h = 0; h < road.holders; h++) {
                addByte(state.breathOf(h));
                addByte(state.givesOf(h));
                int score = state.scoreOf(h) + SCORE_SHIFT;
                addByte(score >> 16);
                addByte(score >> 8 & 255);
                addByte(score & 255);
                for (int t = 0; t < road.tunnels; t++) {
                    addByte(state.thinksOf(h, t));
                }
            }
            int check = 107;
            for (int i = 0; i < size; i++) {
                check = withChecked(check, bytes[i]);
            }
            addByte(check);
        }

        private void addByte(int octet) {
            if (size < bytes.length) {
                bytes[size] = octet;
                size++;
            }
        }

        private static int withChecked(int check, int octet) {
            return (5 * check + octet) % 251;
        }

        private static int holderSize(Road road) {
            return 5 + road.tunnels;
        }

        static boolean isOf(Tape tape, Road road) {
            int last = 1 + road.holders * holderSize(road);
            if (tape.size != last + 1) {
                return false;
            }
            int check = 107;
            for (int i = 0; i < last; i++) {
                check = withChecked(check, tape.byteAt(i));
            }
            if (check != tape.byteAt(last)) {
                return false;
            }
            if (tape.byteAt(0) != 0 && !road.hasTunnel(tape.byteAt(0))) {
                return false;
            }
            for (int h = 0; h < road.holders; h++) {
                if (!isHolderAt(tape, 1 + h * holderSize(road), road.tunnels)) {
                    return false;
                }
            }
            return true;
        }

        private static boolean isHolderAt(Tape tape, int at, int tunnels) {
            if (!isSecond(tape.byteAt(at)) || !isSecond(tape.byteAt(at + 1))) {
                return false;
            }
            int score = scoreAt(tape, at + 2);
            if (score < -MOST_SCORE || score > MOST_SCORE) {
                return false;
            }
            for (int t = 0; t < tunnels; t++) {
                if (!isSecond(tape.byteAt(at + 5 + t))) {
                    return false;
                }
            }
            return true;
        }

        private static int scoreAt(Tape tape, int at) {
            return (tape.byteAt(at) << 16 | tape.byteAt(at + 1) << 8 | tape.byteAt(at + 2)) - SCORE_SHIFT;
        }

        static void putInto(Tape tape, Road road, State state) {
            state.keepNothing();
            state.setNextTunnel(tape.byteAt(0));
            for (int h = 0; h < road.holders; h++) {
                int at = 1 + h * holderSize(road);
                state.setBreath(h, tape.byteAt(at));
                state.setGives(h, tape.byteAt(at + 1));
                state.setScore(h, scoreAt(tape, at + 2));
                for (int t = 0; t < road.tunnels; t++) {
                    state.setThinks(h, t, tape.byteAt(at + 5 + t));
                }
            }
        }
    }
}
