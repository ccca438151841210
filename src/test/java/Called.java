/** An object whose calls are told as texts and counted: what it answers behind the 512th is free, so no test asks that. */
final class Called {
    static final int MOST_CALLS = 512;
    /** The latest call to any object, as a test would tell it. */
    static String latest = "";

    private final BreathRoad road = new BreathRoad();
    private int calls = 0;

    /** An object with this text as its ROAD. */
    static Called of(String text) {
        Called x = new Called();
        x.read(text);
        if (x.fault(0) != 0) {
            throw new IllegalArgumentException("fault " + x.fault(0) + " at " + x.fault(1) + " of " + text);
        }
        return x;
    }

    /** Bytes on an empty tape. */
    void put(int... bytes) {
        for (int i = 0; i < bytes.length; i += 20) {
            int[] numbers = new int[5];
            for (int k = 0; k < 20; k++) {
                int octet = i + k < bytes.length ? bytes[i + k] : 32;
                numbers[k / 4] = numbers[k / 4] << 8 | octet & 255;
            }
            feed(numbers[0], numbers[1], numbers[2], numbers[3], numbers[4]);
        }
        if (!end(bytes.length)) {
            throw new IllegalArgumentException("the tape did not take " + bytes.length + " bytes");
        }
    }

    void put(String text) {
        put(text.chars().toArray());
    }

    int read(String text) {
        put(text);
        return road();
    }

    /** Bytes and behind them the one that closes AN IMAGE. */
    static int[] closed(int... bytes) {
        int[] all = java.util.Arrays.copyOf(bytes, bytes.length + 1);
        int c = 107;
        for (int octet : bytes) {
            c = (5 * c + octet) % 251;
        }
        all[bytes.length] = c;
        return all;
    }

    boolean goOnWith(int... bytes) {
        put(bytes);
        return goOn();
    }

    private void tell(String name, int... arguments) {
        StringBuilder call = new StringBuilder(name).append('(');
        for (int i = 0; i < arguments.length; i++) {
            call.append(i == 0 ? "" : ", ").append(arguments[i]);
        }
        latest = call.append(')').toString();
        calls++;
        if (calls > MOST_CALLS) {
            throw new IllegalStateException("call " + calls + " of one object: " + latest);
        }
    }

    int feed(int a, int b, int c, int d, int e) {
        tell("feed", a, b, c, d, e);
        return road.feed(a, b, c, d, e);
    }

    boolean end(int n) {
        tell("end", n);
        return road.end(n);
    }

    int road() {
        tell("road");
        return road.road();
    }

    int fault(int what) {
        tell("fault", what);
        return road.fault(what);
    }

    int has(int what) {
        tell("has", what);
        return road.has(what);
    }

    int letter(int kind, int which, int k) {
        tell("letter", kind, which, k);
        return road.letter(kind, which, k);
    }

    int tunnel(int tunnel, int what) {
        tell("tunnel", tunnel, what);
        return road.tunnel(tunnel, what);
    }

    int holder(int holder, int what) {
        tell("holder", holder, what);
        return road.holder(holder, what);
    }

    int score(int holder) {
        tell("score", holder);
        return road.score(holder);
    }

    int likely(int tunnel, int seconds) {
        tell("likely", tunnel, seconds);
        return road.likely(tunnel, seconds);
    }

    int holds(int holder, int tunnel, int length) {
        tell("holds", holder, tunnel, length);
        return road.holds(holder, tunnel, length);
    }

    int made(int holder, int tunnel) {
        tell("made", holder, tunnel);
        return road.made(holder, tunnel);
    }

    int worth(int holder, int tunnel, int length) {
        tell("worth", holder, tunnel, length);
        return road.worth(holder, tunnel, length);
    }

    int tired(int holder, int tunnel, int length, int held) {
        tell("tired", holder, tunnel, length, held);
        return road.tired(holder, tunnel, length, held);
    }

    int alone(int holder, int tunnel, int what) {
        tell("alone", holder, tunnel, what);
        return road.alone(holder, tunnel, what);
    }

    int on(int holder, int n, int what) {
        tell("on", holder, n, what);
        return road.on(holder, n, what);
    }

    int rest(int tunnel, int k) {
        tell("rest", tunnel, k);
        return road.rest(tunnel, k);
    }

    int hidden(int holder, int tunnel, int what) {
        tell("hidden", holder, tunnel, what);
        return road.hidden(holder, tunnel, what);
    }

    int pace(int tunnel, int holders, int what) {
        tell("pace", tunnel, holders, what);
        return road.pace(tunnel, holders, what);
    }

    int whom(int holder, int tunnel, int what) {
        tell("whom", holder, tunnel, what);
        return road.whom(holder, tunnel, what);
    }

    int faces(int tunnel) {
        tell("faces", tunnel);
        return road.faces(tunnel);
    }

    int fit(int what) {
        tell("fit", what);
        return road.fit(what);
    }

    int drive(int n) {
        tell("drive", n);
        return road.drive(n);
    }

    int pause() {
        tell("pause");
        return road.pause();
    }

    int believe(int holder, int tunnel, int length) {
        tell("believe", holder, tunnel, length);
        return road.believe(holder, tunnel, length);
    }

    int give(int holder, int seconds) {
        tell("give", holder, seconds);
        return road.give(holder, seconds);
    }

    boolean undo() {
        tell("undo");
        return road.undo();
    }

    boolean seed(int seed) {
        tell("seed", seed);
        return road.seed(seed);
    }

    int kept(int k, int what) {
        tell("kept", k, what);
        return road.kept(k, what);
    }

    int image() {
        tell("image");
        return road.image();
    }

    int octet(int k) {
        tell("octet", k);
        return road.octet(k);
    }

    boolean goOn() {
        tell("goOn");
        return road.goOn();
    }

    int status(int what) {
        tell("status", what);
        return road.status(what);
    }
}
