import java.util.Random;

/** Runs of random calls, on BreathRoad and on the model: all answers must be the same, and none may throw. */
public final class ModelTest {
    private static final int[] EDGES = {Integer.MIN_VALUE, Integer.MAX_VALUE, -2, -1, 61, 60, 100, 1 << 30, 256};

    private static final int MOST_CALLS = 512;

    private final Check check;
    private final Random random;
    private final BreathRoad x = new BreathRoad();
    private final Model model = new Model();
    private final int run;
    private int calls = 0;
    private int[] older = {};

    private ModelTest(Check check, int run) {
        this.check = check;
        this.run = run;
        random = new Random(7919L * run);
    }

    public static void main(String[] args) {
        int runs = args.length > 0 ? Integer.parseInt(args[0]) : 300;
        Check check = new Check();
        for (int run = 1; run <= runs; run++) {
            new ModelTest(check, run).go();
        }
        check.finish();
    }

    private void go() {
        tell(new RandomRoad(random).text());
        while (calls < MOST_CALLS) {
            step();
        }
    }

    private void due(String call, long got, long want) {
        calls++;
        // What the last step asks behind the 512th call is free.
        if (calls <= MOST_CALLS) {
            check.due("run " + run + ", call " + calls + ": " + call, got, want);
        }
    }

    private void due(String call, boolean got, boolean want) {
        due(call, got ? 1 : 0, want ? 1 : 0);
    }

    private void feed(int... bytes) {
        for (int i = 0; i < bytes.length; i += 20) {
            int[] n = new int[5];
            for (int k = 0; k < 20; k++) {
                n[k / 4] = n[k / 4] << 8 | (i + k < bytes.length ? bytes[i + k] & 255 : 32);
            }
            due("feed", x.feed(n[0], n[1], n[2], n[3], n[4]), model.feed(n[0], n[1], n[2], n[3], n[4]));
        }
        due("end", x.end(bytes.length), model.end(bytes.length));
    }

    private void tell(String text) {
        due("end", x.end(0), model.end(0));
        feed(text.chars().toArray());
        due("road of " + text, x.road(), model.road());
        due("fault(0) of " + text, x.fault(0), model.fault(0));
        due("fault(1) of " + text, x.fault(1), model.fault(1));
    }

    private int some(int most) {
        return random.nextInt(25) == 0 ? EDGES[random.nextInt(EDGES.length)] : random.nextInt(most);
    }

    private int holder() {
        return random.nextInt(15) == 0 ? some(8) : random.nextInt(Math.max(1, model.has(1)));
    }

    private int tunnel() {
        return random.nextInt(15) == 0 ? some(8) : random.nextInt(Math.max(1, model.has(0)));
    }

    private void step() {
        int kind = random.nextInt(100);
        if (kind < 2) {
            tell(new RandomRoad(random).text());
        } else if (kind < 5) {
            tell(new RandomRoad(random).brokenText());
        } else if (kind < 8) {
            faces();
        } else if (kind < 11) {
            image();
        } else if (kind < 45) {
            act();
        } else if (kind < 70) {
            choose();
        } else {
            ask();
        }
    }

    private void faces() {
        int[] bytes = new int[random.nextInt(8) == 0 ? random.nextInt(28) : 2 * (1 + random.nextInt(3))];
        int t = tunnel();
        int length = Math.max(1, model.tunnel(Math.max(0, Math.min(t, model.has(0) - 1)), 10));
        for (int i = 0; i < bytes.length; i += 2) {
            bytes[i] = holder();
            if (i + 1 < bytes.length) {
                int held = model.holds(bytes[i], t, length);
                bytes[i + 1] = random.nextInt(6) == 0 || held < 0 ? some(62) : held;
            }
        }
        feed(bytes);
        due("faces", x.faces(t), model.faces(t));
        for (int what = -1; what < 4; what++) {
            due("fit " + what, x.fit(what), model.fit(what));
        }
    }

    private void image() {
        due("image", x.image(), model.image());
        int size = model.image();
        int[] bytes = new int[size];
        for (int k = 0; k < size; k++) {
            due("octet " + k, x.octet(k), model.octet(k));
            bytes[k] = model.octet(k);
        }
        due("octet behind", x.octet(size), model.octet(size));
        int[] latest = bytes.clone();
        if (older.length == size && random.nextBoolean()) {
            bytes = older;
        }
        older = latest;
        if (random.nextInt(3) > 0) {
            for (int i = random.nextInt(3); i > 0; i--) {
                bytes[random.nextInt(4) == 0 ? 0 : random.nextInt(size - 1)] = some(random.nextBoolean() ? 6 : 64);
            }
            int c = 107;
            for (int k = 0; k < size - 1; k++) {
                c = (5 * c + (bytes[k] & 255)) % 251;
            }
            bytes[size - 1] = random.nextInt(8) == 0 ? some(256) : c;
            feed(random.nextInt(10) == 0 ? java.util.Arrays.copyOf(bytes, random.nextInt(size + 3)) : bytes);
            due("goOn", x.goOn(), model.goOn());
        }
    }

    private void act() {
        int a = holder();
        int t = tunnel();
        switch (random.nextInt(10)) {
            case 0, 1, 2: {
                int n = random.nextInt(4) == 0 ? some(33) : 1 + random.nextInt(4);
                due("drive " + n, x.drive(n), model.drive(n));
                break;
            }
            case 3: due("pause", x.pause(), model.pause()); break;
            case 4: {
                int l = some(61);
                due("believe", x.believe(a, t, l), model.believe(a, t, l));
                break;
            }
            case 5: {
                int s = some(61);
                due("give", x.give(a, s), model.give(a, s));
                break;
            }
            case 6: {
                int seed = random.nextBoolean() ? random.nextInt() : some(99);
                due("seed " + seed, x.seed(seed), model.seed(seed));
                break;
            }
            case 7: {
                for (int i = random.nextInt(8) == 0 ? 22 : 1; i > 0; i--) {
                    due("undo", x.undo(), model.undo());
                }
                break;
            }
            case 8: {
                int n = some(1650);
                due("end " + n, x.end(n), model.end(n));
                int v = random.nextInt();
                due("feed", x.feed(v, 1, 2, 3, v), model.feed(v, 1, 2, 3, v));
                break;
            }
            default: {
                for (int what = -1; what < 9; what++) {
                    due("has " + what, x.has(what), model.has(what));
                }
                for (int what = -1; what < 6; what++) {
                    due("status " + what, x.status(what), model.status(what));
                }
            }
        }
    }

    private void choose() {
        int h = holder();
        int t = tunnel();
        for (int what = random.nextInt(20) == 0 ? -1 : 0; what < (random.nextInt(20) == 0 ? 3 : 2); what++) {
            String told = "(" + h + ", " + t + ", " + what + ")";
            switch (random.nextInt(6)) {
                case 0: due("alone" + told, x.alone(h, t, what), model.alone(h, t, what)); break;
                case 1: {
                    int n = random.nextInt(12) == 0 ? some(6) : 1 + random.nextInt(4);
                    due("on " + h + " " + n, x.on(h, n, what), model.on(h, n, what));
                    break;
                }
                case 2: {
                    int k = random.nextInt(3) == 0 ? -1 : h;
                    due("rest " + t + " " + k, x.rest(t, k), model.rest(t, k));
                    break;
                }
                case 3: due("hidden" + told, x.hidden(h, t, what), model.hidden(h, t, what)); break;
                case 4: {
                    int bits = some(1 << Math.max(0, model.has(1)));
                    due("pace " + t + " " + bits, x.pace(t, bits, what), model.pace(t, bits, what));
                    break;
                }
                default: due("whom" + told, x.whom(h, t, what), model.whom(h, t, what)); break;
            }
        }
    }

    private void ask() {
        int h = holder();
        int t = tunnel();
        int length = some(62);
        int w = some(26);
        switch (random.nextInt(11)) {
            case 0: due("letter", x.letter(w % 3, t, length % 8), model.letter(w % 3, t, length % 8)); break;
            case 1: due("tunnel " + w, x.tunnel(t, w), model.tunnel(t, w)); break;
            case 2: due("holder " + w, x.holder(h, w), model.holder(h, w)); break;
            case 3: due("score", x.score(h), model.score(h)); break;
            case 4: due("likely", x.likely(t, length), model.likely(t, length)); break;
            case 5: due("holds", x.holds(h, t, length), model.holds(h, t, length)); break;
            case 6: due("made", x.made(h, t), model.made(h, t)); break;
            case 7: due("worth", x.worth(h, t, length), model.worth(h, t, length)); break;
            case 8: due("tired", x.tired(h, t, length, w), model.tired(h, t, length, w)); break;
            case 9: {
                int k = some(50);
                for (int what = -1; what < 5; what++) {
                    due("kept " + k + " " + what, x.kept(k, what), model.kept(k, what));
                }
                break;
            }
            default: due("octet", x.octet(length), model.octet(length)); break;
        }
    }
}
