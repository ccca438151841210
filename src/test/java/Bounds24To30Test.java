import java.util.List;
import java.util.function.Predicate;

/** Boundary cases of ACTS, of the seed and of what is KEPT. */
public final class Bounds24To30Test {
    private static final int NONE = Bounds.NONE;
    private static final int LEAST = Bounds.LEAST;
    private static final int MOST = Bounds.MOST;
    private static final String T = "tunnel t gap 1 at 5 weighs 1;";
    private static final String H = "holder h breath 5 laughs 0;";
    private static final String TWO = "tunnel ta gap 1 at 5 weighs 1;tunnel tb gap 2 at 6 weighs 2;"
        + "holder ha breath 5 laughs 0;holder hb breath 6 laughs 0;";

    public static void main(String[] args) {
        Bounds.run(Bounds24To30Test.class, 24, 30);
    }

    private static void due(long got, long want) {
        Bounds.due(got, want);
    }

    private static void due(boolean got, boolean want) {
        Bounds.due(got, want);
    }

    /** DRAWS by the document's words. */
    private static final class Draws {
        long x;

        Draws(long seed) {
            x = seed;
        }

        int draw(int m) {
            x = (1103515245L * x + 12345) % 2147483648L;
            return (int) (x / 64 % m);
        }

        int after(int draws) {
            for (int i = 0; i < draws; i++) {
                draw(1);
            }
            return (int) x;
        }
    }

    private static int after(int seed, int draws) {
        return new Draws(seed).after(draws);
    }

    /** The first seed whose DRAWS are so. */
    private static int seedFor(Predicate<Draws> so) {
        for (int seed = 0; seed < 1000000; seed++) {
            if (so.test(new Draws(seed))) {
                return seed;
            }
        }
        throw new IllegalStateException("no seed found");
    }

    // ---- promise 24

    static void promise24OneToThirty() {
        for (int n : new int[] {1, 2, 29, 30}) {
            Called x = Called.of(T + H);
            due(x.drive(n), 5 * n);
            due(x.has(5), n);
            due(x.has(6), 1);
            due(x.status(2), 0);
        }
        Called x = Called.of(T + H);
        Bounds.dueToEach(NONE, x::drive, 0, 31, -1, 32, LEAST, MOST);
        due(x.status(2), 6);
        due(x.has(5), 0);
        due(x.has(6), 0);
        due(x.has(7), 1);
    }

    static void promise24NoTunnels() {
        Called x = Called.of(H);
        due(x.drive(1), NONE);
        due(x.drive(30), NONE);
        due(x.status(2), 2);
        due(x.has(6), 0);
        due(x.has(7), 1);
        due(x.holder(0, 0), 5);
    }

    static void promise24NoHolders() {
        Called x = Called.of(T);
        due(x.drive(30), 0);
        due(x.has(5), 0);
        due(x.has(6), 1);
        due(x.has(7), after(1, 30));
        due(x.status(2), 0);
    }

    static void promise24RefusedChangesNothing() {
        Called x = Bounds.used();
        x.put("seen 77;");
        Bounds.refuses(x, 2, () -> x.drive(0), () -> x.drive(31), () -> x.drive(-1));
        due(x.road(), 1);
        due(x.has(2), 77);
    }

    static void promise24ThirtyAreThirtyTimesOne() {
        String text = "tunnel ta gap 4 at 8 weighs 3 at 15 weighs 2;tunnel tb gap 0 at 5 weighs 1 at 21 weighs 4;"
            + "holder ha breath 22 laughs 3;holder hb breath 35 laughs 0;worth made*30-held+last*7;"
            + "tires max(2,breath-held/3+gap);";
        Called x = Called.of(text);
        Called y = Called.of(text);
        int all = 0;
        for (int i = 0; i < 30; i++) {
            all += y.drive(1);
        }
        due(x.drive(30), all);
        due(x.has(7), y.has(7));
        due(x.has(4), y.has(4));
        for (int h = 0; h < 2; h++) {
            due(x.score(h), y.score(h));
            due(x.holder(h, 0), y.holder(h, 0));
        }
        for (int i = 0; i < 4 * 48; i++) {
            due(x.kept(i / 4, i % 4), y.kept(i / 4, i % 4));
        }
        due(x.has(6), 1);
        due(y.has(6), 20);
        due(x.undo(), true);
        due(x.has(5), 0);
        due(x.has(4), 0);
        due(x.score(0), 0);
        due(x.holder(0, 0), 22);
    }

    static void promise24BehindTheLastTheFirstAgain() {
        Called x = Called.of("tunnel a gap 1 at 1 weighs 1;tunnel b gap 1 at 2 weighs 1;tunnel c gap 1 at 3 weighs 1;" + H);
        due(x.drive(7), 1 + 2 + 3 + 1 + 2 + 3 + 1);
        for (int k = 0; k < 7; k++) {
            due(x.kept(k, 0), k % 3);
            due(x.kept(k, 1), k % 3 + 1);
        }
        due(x.has(4), 1);
        due(x.drive(2), 5);
        due(x.has(4), 0);
    }

    static void promise24WeightByWeight() {
        int[] lengths = {5, 5, 9, 9, 9, 7, 1, 1, 1, 1, 1, 1, 1, 1, 1};
        for (int d = 0; d < lengths.length; d++) {
            int drawn = d;
            int seed = seedFor(draws -> draws.draw(15) == drawn);
            Called x = Called.of("tunnel t gap 1 at 5 weighs 2 at 9 weighs 3 at 7 weighs 1 at 1 weighs 9;"
                + "holder h breath 60 laughs 0;");
            x.seed(seed);
            due(x.drive(1), lengths[d]);
            due(x.kept(0, 1), lengths[d]);
            due(x.has(7), after(seed, 1));
        }
    }

    static void promise24OneLengthIsDrawnToo() {
        Called x = Called.of(T + H);
        x.drive(1);
        due(x.has(7), 1103527590);
        x.drive(1);
        due(x.has(7), after(1, 2));
    }

    private static Called laughing(int laughs, int seed) {
        Called x = Called.of(T + "holder h breath 5 laughs " + laughs + ";");
        x.seed(seed);
        return x;
    }

    static void promise24JustBelowHisLaughs() {
        for (int laughs : new int[] {1, 2, 25, 49, 50}) {
            int below = seedFor(draws -> draws.draw(1) == 0 && draws.draw(100) == laughs - 1);
            Called x = laughing(laughs, below);
            due(x.drive(1), 0);
            due(x.has(7), after(below, 2));
            int not = seedFor(draws -> draws.draw(1) == 0 && draws.draw(100) == laughs && draws.draw(100) < laughs);
            x = laughing(laughs, not);
            due(x.drive(1), 1);
            due(x.has(7), after(not, 3));
        }
    }

    /** By the second in which he laughs; behind the last one he would have made it. */
    static void promise24OneSecondLessThanThat() {
        for (int second = 1; second <= 6; second++) {
            int laughsIn = second;
            int seed = seedFor(draws -> {
                draws.draw(1);
                for (int s = 1; s < laughsIn; s++) {
                    if (draws.draw(100) < 50) {
                        return false;
                    }
                }
                return draws.draw(100) < 50;
            });
            Called x = laughing(50, seed);
            due(x.drive(1), second - 1);
            due(x.kept(0, 3), second - 1);
            due(x.has(7), after(seed, 1 + Math.min(second, 5)));
        }
    }

    static void promise24WithoutLaughsNoDraws() {
        Called x = laughing(0, 3);
        due(x.drive(1), 5);
        due(x.has(7), after(3, 1));
    }

    static void promise24WhoHoldsNothingHasNoDraws() {
        Called x = laughing(50, 3);
        x.give(0, 0);
        due(x.drive(1), 0);
        due(x.has(7), after(3, 1));
        x.give(0, 60);
        x.believe(0, 0, 60);
        due(x.drive(1), 0);
        due(x.has(7), after(3, 2));
        x.believe(0, 0, 0);
        x.give(0, 1);
        due(x.drive(1) <= 1, true);
        due(x.has(7), after(3, 4));
    }

    static void promise24HolderByHolder() {
        // The first one laughs at once, the second one has no DRAWS, the third one laughs in his second second.
        int seed = seedFor(draws -> draws.draw(1) == 0 && draws.draw(100) < 40 && draws.draw(100) >= 10 && draws.draw(100) < 10);
        Called x = Called.of(T + "holder a breath 5 laughs 40;holder b breath 4 laughs 0;holder c breath 3 laughs 10;"
            + "worth held*100+last*10+beaten;tires held*10+last+beaten;");
        x.seed(seed);
        due(x.drive(1), 0 + 4 + 1);
        due(x.has(7), after(seed, 4));
        int[] held = {0, 4, 1};
        int[] scores = {0, 412, 101};
        int[] breaths = {0, 43, 11};
        for (int h = 0; h < 3; h++) {
            due(x.kept(h, 2), h);
            due(x.kept(h, 3), held[h]);
            due(x.score(h), scores[h]);
            due(x.holder(h, 0), breaths[h]);
        }
    }

    static void promise24HisBreathIsThatAheadOfIt() {
        Called x = Called.of(T + H + "holder i breath 7 laughs 0;worth breath;tires breath-1;");
        x.drive(2);
        due(x.score(0), 5 + 4);
        due(x.score(1), 7 + 6);
        due(x.holder(0, 0), 3);
        due(x.holder(1, 0), 5);
    }

    static void promise24WorthAndTiredByItsLengthAndGap() {
        Called x = Called.of("tunnel ta gap 1 at 20 weighs 1;tunnel tb gap 2 at 30 weighs 1;" + H
            + "worth long*10+gap+held;tires long+gap;");
        due(x.drive(1), 5);
        due(x.score(0), 206);
        due(x.holder(0, 0), 21);
        due(x.drive(1), 21);
        due(x.score(0), 206 + 323);
        due(x.holder(0, 0), 32);
    }

    static void promise24TiredFromZeroToSixty() {
        Called x = Called.of(T + H + "tires breath-held;");
        due(x.drive(1), 5);
        due(x.holder(0, 0), 0);
        due(x.drive(30), 0);
        due(x.holder(0, 0), 0);
        x = Called.of("tunnel t gap 1 at 60 weighs 1;" + H + "tires breath+11;");
        due(x.drive(5), 5 + 16 + 27 + 38 + 49);
        due(x.holder(0, 0), 60);
        due(x.drive(30), 1800);
        due(x.holder(0, 0), 60);
        x = Called.of(T + H);
        x.drive(30);
        due(x.holder(0, 0), 5);
    }

    /** Without a SUM of tires as much as ahead of it, be that other than at first. */
    static void promise24AsMuchBreathAsAheadWithoutASum() {
        for (int breath : new int[] {0, 3, 5, 60}) {
            Called x = Called.of("tunnel t gap 1 at 60 weighs 1;" + H);
            due(x.goOnWith(Called.closed(0, breath, 60, 1, 134, 160, 0)), true);
            due(x.drive(2), 2 * breath);
            due(x.holder(0, 0), breath);
            due(x.holder(0, 1), 5);
            due(x.on(0, 4, 1), 0);
            due(x.tired(0, 0, 60, 5), breath);
            due(x.pause(), 5 - breath);
        }
    }

    static void promise24ScoresAtTheirBounds() {
        Called x = Called.of(T + H + "worth 9999;");
        for (int i = 1; i <= 3; i++) {
            x.drive(30);
            due(x.score(0), 30 * 999 * i);
        }
        x.drive(10);
        due(x.score(0), 99900);
        x.drive(1);
        due(x.score(0), 99999);
        x = Called.of(T + H + "worth 0-9999;");
        for (int i = 0; i < 3; i++) {
            x.drive(30);
        }
        x.drive(10);
        due(x.score(0), -99900);
        x.drive(1);
        due(x.score(0), -99999);
    }

    static void promise24TheMostSecondsOfAll() {
        StringBuilder text = new StringBuilder("tunnel t gap 1 at 60 weighs 9;");
        for (int h = 0; h < 6; h++) {
            text.append("holder h").append((char) ('a' + h)).append(" breath 60 laughs 0;");
        }
        due(Called.of(text.toString()).drive(30), 6 * 30 * 60);
    }

    // ---- promise 25

    static void promise25MoreAndLess() {
        Called x = Called.of(T + H + "tires 0;");
        x.drive(1);
        due(x.pause(), 5);
        due(x.holder(0, 0), 5);
        x = Called.of(T + H + "tires 60;");
        x.drive(1);
        due(x.pause(), -55);
        due(x.holder(0, 0), 5);
        due(x.pause(), 0);
    }

    static void promise25LessByJustOne() {
        Called x = Called.of(T + H + "tires breath+1;");
        x.drive(1);
        due(x.pause(), -1);
        due(x.holder(0, 0), 5);
        due(x.status(2), 0);
    }

    static void promise25Together() {
        Called x = Called.of(T + "holder a breath 5 laughs 0;holder b breath 9 laughs 0;tires if(breath=5,1,20);");
        x.drive(1);
        due(x.pause(), 4 - 11);
        due(x.holder(0, 0), 5);
        due(x.holder(1, 0), 9);
        StringBuilder text = new StringBuilder(T);
        for (int h = 0; h < 6; h++) {
            text.append("holder h").append((char) ('a' + h)).append(" breath ").append(h < 3 ? 60 : 1).append(" laughs 0;");
        }
        x = Called.of(text + "tires 0;");
        x.drive(1);
        due(x.pause(), 183);
        x = Called.of(text + "tires 60;");
        x.drive(1);
        due(x.pause(), -177);
    }

    static void promise25NobodyThere() {
        Called x = new Called();
        due(x.pause(), 0);
        due(x.has(6), 1);
        x = Called.of(T);
        due(x.pause(), 0);
        due(x.has(6), 1);
        due(x.undo(), true);
        due(x.undo(), false);
    }

    static void promise25BreathAlone() {
        Called x = Called.of(TWO + "worth 7;tires 1;");
        x.drive(1);
        x.believe(0, 1, 9);
        x.give(1, 8);
        int seed = x.has(7);
        due(x.pause(), 4 + 5);
        due(x.has(4), 1);
        due(x.has(5), 2);
        due(x.has(6), 4);
        due(x.has(7), seed);
        due(x.score(0), 7);
        due(x.holder(0, 11), 9);
        due(x.holder(1, 3), 8);
    }

    // ---- promise 26

    static void promise26LengthsOfZeroAndOfSixty() {
        Called x = Called.of(TWO);
        due(x.believe(0, 1, 60), 0);
        due(x.believe(0, 1, 1), 60);
        due(x.believe(0, 1, 0), 1);
        due(x.believe(0, 1, 59), 0);
        due(x.holder(0, 11), 59);
        due(x.holder(0, 10), 0);
        due(x.holder(1, 11), 0);
        due(x.has(6), 4);
        Bounds.dueToEach(NONE, length -> x.believe(0, 1, length), -1, 61, LEAST, MOST);
        due(x.status(2), 4);
        due(x.has(6), 4);
        due(x.holder(0, 11), 59);
    }

    static void promise26ZeroIsNothing() {
        Called x = Called.of(TWO);
        x.believe(0, 0, 60);
        due(x.holds(0, 0, 5), 0);
        x.believe(0, 0, 0);
        due(x.holds(0, 0, 5), 5);
    }

    static void promise26TheSameAgainIsAnActToo() {
        Called x = Called.of(TWO);
        due(x.believe(0, 0, 0), 0);
        due(x.has(6), 1);
        due(x.undo(), true);
    }

    static void promise26NoneSuch() {
        Called x = Called.of(TWO);
        due(x.believe(1, 1, 5), 0);
        Bounds.dueToEach(NONE, h -> x.believe(h, 0, 5), -1, 2, LEAST, MOST);
        Bounds.dueToEach(NONE, t -> x.believe(0, t, 5), -1, 2, LEAST, MOST);
        due(x.status(2), 8);
        due(x.has(6), 1);
        due(Called.of(T).believe(0, 0, 5), NONE);
        due(Called.of(H).believe(0, 0, 5), NONE);
    }

    static void promise26RefusedChangesNothing() {
        Called x = Bounds.used();
        x.put("seen 77;");
        Bounds.refuses(x, 2, () -> x.believe(0, 0, 61), () -> x.believe(0, 0, -1), () -> x.believe(2, 0, 5),
            () -> x.believe(0, 2, 5), () -> x.believe(-1, 0, 5), () -> x.believe(0, -1, 5));
        due(x.road(), 1);
        due(x.has(2), 77);
    }

    static void promise26JustThoseThatThereAre() {
        Bounds.dueToNoneSuch(NONE, (x, h, t) -> x.believe(h, t, 5));
    }

    // ---- promise 27

    static void promise27SecondsOfZeroAndOfSixty() {
        Called x = Called.of(TWO);
        due(x.give(0, 0), 60);
        due(x.give(0, 60), 0);
        due(x.give(0, 1), 60);
        due(x.give(0, 59), 1);
        due(x.holder(0, 3), 59);
        due(x.holder(1, 3), 60);
        due(x.has(6), 4);
        Bounds.dueToEach(NONE, seconds -> x.give(0, seconds), -1, 61, LEAST, MOST);
        due(x.status(2), 4);
        due(x.has(6), 4);
        due(x.holder(0, 3), 59);
    }

    static void promise27NoneSuch() {
        Called x = Called.of(TWO);
        due(x.give(1, 5), 60);
        Bounds.dueToEach(NONE, h -> x.give(h, 5), -1, 2, LEAST, MOST);
        due(x.status(2), 4);
        due(x.has(6), 1);
        due(Called.of(T).give(0, 5), NONE);
        due(Called.of(H).give(0, 5), 60);
        due(new Called().give(0, 5), NONE);
    }

    static void promise27TheSameAgainIsAnActToo() {
        Called x = Called.of(TWO);
        due(x.give(0, 60), 60);
        due(x.has(6), 1);
        due(x.undo(), true);
    }

    static void promise27RefusedChangesNothing() {
        Called x = Bounds.used();
        x.put("seen 77;");
        Bounds.refuses(x, 2, () -> x.give(0, 61), () -> x.give(0, -1), () -> x.give(2, 5), () -> x.give(-1, 5));
        due(x.road(), 1);
        due(x.has(2), 77);
    }

    static void promise27JustThoseThatThereAre() {
        Bounds.dueToNoneSuch(NONE, (x, h, t) -> t < 0 || t >= x.has(0) ? NONE : x.give(h, 5));
    }

    // ---- promise 28

    static void promise28NoActLeft() {
        Called x = new Called();
        due(x.undo(), false);
        due(x.status(3), 1);
        x = Called.of(TWO);
        due(x.undo(), false);
        due(x.status(3), 1);
        x.give(0, 5);
        due(x.undo(), true);
        due(x.status(3), 1);
        due(x.undo(), false);
        due(x.status(3), 2);
        due(x.has(6), 0);
        due(x.holder(0, 3), 60);
    }

    static void promise28TheTwentieth() {
        Called x = Called.of(TWO);
        for (int i = 1; i <= 20; i++) {
            x.give(0, i);
        }
        for (int i = 19; i >= 0; i--) {
            due(x.undo(), true);
            due(x.holder(0, 3), i == 0 ? 60 : i);
            due(x.has(6), i);
        }
        due(x.undo(), false);
        due(x.holder(0, 3), 60);
    }

    static void promise28TheTwentyFirst() {
        Called x = Called.of(TWO);
        for (int i = 1; i <= 21; i++) {
            x.give(0, i);
        }
        for (int i = 20; i >= 1; i--) {
            due(x.undo(), true);
            due(x.holder(0, 3), i);
        }
        due(x.undo(), false);
        due(x.status(3), 1);
        due(x.holder(0, 3), 1);
    }

    static void promise28FarBehindTheTwentieth() {
        Called x = Called.of(TWO);
        for (int i = 0; i < 61; i++) {
            x.give(0, i);
        }
        for (int i = 59; i >= 55; i--) {
            due(x.undo(), true);
            due(x.holder(0, 3), i);
        }
        due(x.has(6), 15);
        for (int i = 0; i < 7; i++) {
            x.give(0, i);
        }
        due(x.has(6), 20);
        for (int i = 5; i >= 0; i--) {
            due(x.undo(), true);
            due(x.holder(0, 3), i);
        }
        for (int i = 55; i >= 42; i--) {
            due(x.undo(), true);
            due(x.holder(0, 3), i);
        }
        due(x.undo(), false);
        due(x.holder(0, 3), 42);
    }

    /** All but the seed is as it was ahead of each sort of ACT. */
    static void promise28EachSortOfAct() {
        for (int sort = 0; sort < 5; sort++) {
            Called x = Bounds.used();
            List<String> before = Bounds.all(x);
            int seed = x.has(7);
            switch (sort) {
                case 0: x.drive(1); break;
                case 1: x.drive(30); break;
                case 2: x.pause(); break;
                case 3: x.believe(0, 0, 50); break;
                default: x.give(0, 50); break;
            }
            int then = x.has(7);
            due(x.undo(), true);
            due(x.has(7), then);
            due(then == seed, sort > 1);
            x.seed(seed);
            Bounds.same(before, Bounds.all(x));
        }
    }

    static void promise28RefusedCallsAreNoActs() {
        Called x = Called.of(TWO);
        x.give(0, 9);
        x.drive(0);
        x.believe(0, 0, 61);
        x.give(0, 61);
        x.seed(5);
        x.seed(-5);
        x.image();
        x.faces(0);
        x.goOn();
        x.read("!");
        due(x.has(6), 1);
        due(x.undo(), true);
        due(x.holder(0, 3), 60);
        due(x.has(7), 5);
    }

    static void promise28NoneBehindARoadOrAnImage() {
        Called x = Called.of(TWO);
        x.give(0, 9);
        due(x.read(TWO), 4);
        due(x.undo(), false);
        x.give(0, 9);
        due(x.goOnWith(Called.closed(0, 5, 8, 1, 134, 160, 0, 0, 6, 60, 1, 134, 160, 0, 0)), true);
        due(x.undo(), false);
        due(x.holder(0, 3), 8);
        due(x.status(3), 2);
    }

    static void promise28RefusedChangesNothing() {
        Called x = Bounds.used();
        for (int acts = x.has(6); acts > 0; acts--) {
            x.undo();
        }
        x.put("seen 77;");
        Bounds.refuses(x, 3, () -> Bounds.asNone(x.undo()), () -> Bounds.asNone(x.undo()));
        due(x.road(), 1);
        due(x.has(2), 77);
    }

    // ---- promise 29

    static void promise29ZeroAndTheGreatest() {
        Called x = Called.of(T + H);
        due(x.seed(0), true);
        due(x.has(7), 0);
        x.drive(1);
        due(x.has(7), 12345);
        due(x.seed(MOST), true);
        due(x.has(7), MOST);
        x.drive(1);
        due(x.has(7), 1043980748);
        due(x.status(4), 0);
    }

    static void promise29BelowZero() {
        Called x = new Called();
        due(x.seed(-1), false);
        due(x.status(4), 1);
        due(x.has(7), 1);
        due(x.seed(LEAST), false);
        due(x.status(4), 2);
        due(x.has(7), 1);
        x.seed(9);
        due(x.seed(-9), false);
        due(x.has(7), 9);
    }

    /** The highest bits too: floor(x / 64) of the greatest seeds, and never below 0. */
    static void promise29DrawsOfGreatSeeds() {
        String text = "tunnel t gap 1 at 1 weighs 1 at 2 weighs 1 at 3 weighs 1 at 4 weighs 4;holder h breath 60 laughs 0;";
        for (int seed : new int[] {MOST, MOST - 1, 2000000000, 1 << 30, (1 << 30) - 1, 65536, 64, 63, 2}) {
            Called x = Called.of(text);
            x.seed(seed);
            Draws draws = new Draws(seed);
            for (int i = 0; i < 10; i++) {
                due(x.drive(1), Math.min(4, draws.draw(7) + 1));
                due(x.has(7), draws.x);
            }
        }
    }

    static void promise29NoActAndNotUndone() {
        Called x = Called.of(T + H);
        x.seed(5);
        due(x.has(6), 0);
        due(x.undo(), false);
        x.drive(1);
        x.seed(6);
        due(x.undo(), true);
        due(x.has(7), 6);
    }

    static void promise29RefusedChangesNothing() {
        Called x = Bounds.used();
        x.put("seen 77;");
        Bounds.refuses(x, 4, () -> Bounds.asNone(x.seed(-1)), () -> Bounds.asNone(x.seed(LEAST)));
        due(x.road(), 1);
        due(x.has(2), 77);
    }

    // ---- promise 30

    /** A HOLDER whose breath is one more each time, so that what he held tells when. */
    private static Called growing() {
        return Called.of("tunnel a gap 1 at 60 weighs 1;tunnel b gap 1 at 59 weighs 1;holder h breath 1 laughs 0;tires breath+1;");
    }

    private static void told(Called x, int k, int time) {
        due(x.kept(k, 0), (time - 1) % 2);
        due(x.kept(k, 1), 60 - (time - 1) % 2);
        due(x.kept(k, 2), 0);
        due(x.kept(k, 3), time);
    }

    static void promise30TheFortyEighthAndTheFortyNinth() {
        Called x = growing();
        due(x.kept(0, 0), NONE);
        x.drive(1);
        told(x, 0, 1);
        due(x.kept(1, 0), NONE);
        x.drive(30);
        x.drive(16);
        told(x, 0, 1);
        told(x, 46, 47);
        due(x.kept(47, 0), NONE);
        x.drive(1);
        told(x, 0, 1);
        told(x, 47, 48);
        due(x.kept(48, 0), NONE);
        x.drive(1);
        told(x, 0, 2);
        told(x, 1, 3);
        told(x, 47, 49);
        due(x.kept(48, 0), NONE);
        x.undo();
        told(x, 0, 1);
        told(x, 47, 48);
    }

    static void promise30LongBehindThem() {
        Called x = Called.of("tunnel t gap 1 at 60 weighs 1;holder h breath 1 laughs 0;tires if(breath=60,1,breath+1);");
        for (int all = 30; all <= 210; all += 30) {
            x.drive(30);
            int first = Math.max(0, all - 48);
            for (int k = 0; k < Math.min(48, all); k += 7) {
                due(x.kept(k, 3), (first + k) % 60 + 1);
            }
            due(x.kept(Math.min(48, all) - 1, 3), (all - 1) % 60 + 1);
        }
    }

    static void promise30TwiceAndThreeTimesFortyEight() {
        Called x = Called.of("tunnel t gap 1 at 60 weighs 1;holder h breath 1 laughs 0;tires if(breath=60,1,breath+1);");
        int all = 0;
        for (int n : new int[] {30, 30, 30, 5, 1, 1, 30, 16, 1, 1}) {
            x.drive(n);
            all += n;
            if (all >= 95) {
                int first = all - 48;
                for (int k : new int[] {0, 1, 2, 23, 24, 45, 46, 47}) {
                    due(x.kept(k, 0), 0);
                    due(x.kept(k, 1), 60);
                    due(x.kept(k, 3), (first + k) % 60 + 1);
                }
                due(x.has(5), 48);
                due(x.kept(48, 3), NONE);
            }
        }
    }

    static void promise30HolderByHolderFromTheOldestOn() {
        Called x = Called.of(TWO + "holder hc breath 1 laughs 0;holder hd breath 2 laughs 0;holder he breath 3 laughs 0;");
        x.drive(10);
        int[] breaths = {5, 6, 1, 2, 3};
        // Of 50 the first two are gone.
        for (int k = 0; k < 48; k += 3) {
            int i = k + 2;
            int length = 5 + i / 5 % 2;
            due(x.kept(k, 0), i / 5 % 2);
            due(x.kept(k, 1), length);
            due(x.kept(k, 2), i % 5);
            due(x.kept(k, 3), Math.min(length, breaths[i % 5]));
        }
        due(x.kept(47, 2), 4);
        due(x.kept(48, 2), NONE);
    }

    static void promise30TheGreatestOfEach() {
        StringBuilder text = new StringBuilder();
        for (int i = 0; i < 6; i++) {
            char c = (char) ('a' + i);
            text.append("tunnel t").append(c).append(" gap 1 at 60 weighs 1;holder h").append(c).append(" breath 60 laughs 0;");
        }
        Called x = Called.of(text.toString());
        x.drive(6);
        int[] want = {5, 60, 5, 60};
        for (int what = 0; what < 4; what++) {
            due(x.kept(35, what), want[what]);
        }
        due(x.kept(36, 0), NONE);
    }

    static void promise30Others() {
        Called x = growing();
        x.drive(1);
        Bounds.dueToEach(NONE, what -> x.kept(0, what), -1, 4, LEAST, MOST);
        Bounds.dueToEach(NONE, k -> x.kept(k, 0), -1, 1, 47, 48, LEAST, MOST);
    }

    static void promise30NothingIsKept() {
        Called x = growing();
        due(x.kept(0, 3), NONE);
        x.drive(30);
        due(x.read("!"), NONE);
        due(x.kept(29, 3), 30);
        due(x.goOnWith(Called.closed(0, 9, 60, 1, 134, 160, 0, 0)), true);
        due(x.kept(0, 3), NONE);
        x.drive(1);
        due(x.kept(0, 3), 9);
        due(x.kept(1, 3), NONE);
        due(x.read(T + H), 2);
        due(x.kept(0, 3), NONE);
    }

    static void promise30OtherActsKeepNothing() {
        Called x = Called.of(T + H);
        x.drive(1);
        x.pause();
        x.give(0, 3);
        x.believe(0, 0, 3);
        due(x.has(5), 1);
        due(x.kept(0, 3), 5);
        due(x.kept(1, 3), NONE);
    }
}
