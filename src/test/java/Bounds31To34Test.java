import java.util.Arrays;

/** Boundary cases of images and of what was refused. */
public final class Bounds31To34Test {
    private static final int NONE = Bounds.NONE;
    private static final int LEAST = Bounds.LEAST;
    private static final int MOST = Bounds.MOST;
    private static final String T = "tunnel t gap 1 at 5 weighs 1;";
    private static final String H = "holder h breath 5 laughs 0;";
    private static final String TWO = "tunnel ta gap 1 at 5 weighs 1;tunnel tb gap 2 at 6 weighs 2;"
        + "holder ha breath 5 laughs 0;holder hb breath 6 laughs 0;";
    /** An image of TWO, without its last byte: tunnel 1 next, scores of -99999 and of 99999. */
    private static final int[] OF_TWO = {1, 0, 60, 0, 0, 1, 0, 60, 60, 0, 3, 13, 63, 60, 0};

    public static void main(String[] args) {
        Bounds.run(Bounds31To34Test.class, 31, 34);
    }

    private static void due(long got, long want) {
        Bounds.due(got, want);
    }

    private static void due(boolean got, boolean want) {
        Bounds.due(got, want);
    }

    private static void octets(Called x, int... ahead) {
        int[] all = Called.closed(ahead);
        due(x.image(), all.length);
        for (int k = 0; k < all.length; k++) {
            due(x.octet(k), all[k]);
        }
        due(x.octet(all.length), NONE);
        due(x.octet(-1), NONE);
    }

    private static String six(String tunnel, String holder) {
        StringBuilder text = new StringBuilder();
        for (int i = 0; i < 6; i++) {
            text.append(tunnel.replace('#', (char) ('a' + i))).append(holder.replace('#', (char) ('a' + i)));
        }
        return text.toString();
    }

    // ---- promise 31

    static void promise31WithoutARoad() {
        Called x = new Called();
        due(x.image(), 2);
        due(x.octet(0), 0);
        due(x.octet(1), 33);
        due(x.octet(2), NONE);
    }

    static void promise31WithoutHoldersOrWithoutTunnels() {
        Called x = Called.of(T + "tunnel u gap 1 at 5 weighs 1;");
        octets(x, 0);
        x.drive(1);
        octets(x, 1);
        octets(Called.of(H), 0, 5, 60, 1, 134, 160);
    }

    static void promise31HowManyBytes() {
        StringBuilder text = new StringBuilder();
        for (int n = 0; n <= 6; n++) {
            Called x = Called.of(text.toString());
            due(x.image(), 2 + n * (5 + n));
            char c = (char) ('a' + n);
            text.append("tunnel t").append(c).append(" gap 1 at 5 weighs 1;holder h").append(c).append(" breath 5 laughs 0;");
        }
    }

    static void promise31ScoresAndAHundredThousand() {
        int[] scores = {-99999, -99998, -1, 0, 1, 255, 256, 31072, 65536, 99998, 99999};
        for (int score : scores) {
            Called x = Called.of(T + H);
            int shown = score + 100000;
            int[] bytes = {0, 5, 60, shown / 65536, shown / 256 % 256, shown % 256, 0};
            due(x.goOnWith(Called.closed(bytes)), true);
            due(x.score(0), score);
            octets(x, bytes);
        }
    }

    static void promise31TheGreatestOfEach() {
        Called x = Called.of(six("tunnel t# gap 1 at 60 weighs 1;", "holder h# breath 60 laughs 0;") + "worth 0-999;");
        int[] bytes = new int[67];
        bytes[0] = 5;
        for (int h = 0; h < 6; h++) {
            int at = 1 + 11 * h;
            bytes[at] = 60;
            bytes[at + 1] = 60 - h;
            bytes[at + 2] = 3;
            bytes[at + 3] = 13;
            bytes[at + 4] = 63 - h;
            for (int t = 0; t < 6; t++) {
                bytes[at + 5 + t] = 60 - 6 * h - t;
            }
        }
        due(x.goOnWith(Called.closed(bytes)), true);
        octets(x, bytes);
    }

    static void promise31AsAllIsNow() {
        Called x = Called.of(TWO + "worth held-6;tires breath-1;");
        octets(x, 0, 5, 60, 1, 134, 160, 0, 0, 6, 60, 1, 134, 160, 0, 0);
        x.drive(1);
        x.believe(0, 1, 60);
        x.give(1, 0);
        octets(x, 1, 4, 60, 1, 134, 159, 0, 60, 5, 0, 1, 134, 159, 0, 0);
        x.undo();
        octets(x, 1, 4, 60, 1, 134, 159, 0, 60, 5, 60, 1, 134, 159, 0, 0);
    }

    static void promise31ChangesNothing() {
        Called x = Called.of(TWO);
        x.drive(1);
        x.put("seen 77;");
        int seed = x.has(7);
        for (int i = 0; i < 3; i++) {
            due(x.image(), 16);
        }
        due(x.has(5), 2);
        due(x.has(6), 1);
        due(x.has(7), seed);
        due(x.road(), 1);
        due(x.has(2), 77);
    }

    static void promise31MoreTunnelsThanHoldersAndFewer() {
        Called x = Called.of(Bounds.many(3, 1));
        x.believe(0, 0, 7);
        x.believe(0, 1, 8);
        x.believe(0, 2, 9);
        octets(x, 0, 20, 60, 1, 134, 160, 7, 8, 9);
        x = Called.of(Bounds.many(1, 3));
        for (int h = 0; h < 3; h++) {
            x.believe(h, 0, 7 + h);
            x.give(h, 30 + h);
        }
        octets(x, 0, 20, 30, 1, 134, 160, 7, 21, 31, 1, 134, 160, 8, 22, 32, 1, 134, 160, 9);
    }

    // ---- promise 32

    static void promise32AheadOfAnyImage() {
        Called x = new Called();
        Bounds.dueToEach(NONE, x::octet, 0, 1, -1, LEAST, MOST);
        Called y = Called.of(TWO);
        y.drive(1);
        Bounds.dueToEach(NONE, y::octet, 0, 1, 15);
    }

    static void promise32AtItsEndAndBehindIt() {
        Called x = Called.of(TWO);
        due(x.image(), 16);
        int c = 107;
        for (int k = 0; k < 15; k++) {
            c = (5 * c + x.octet(k)) % 251;
        }
        due(x.octet(15), c);
        Bounds.dueToEach(NONE, x::octet, 16, 17, 67, 68, 69, -1, LEAST, MOST);
        Called y = Called.of(six("tunnel t# gap 1 at 5 weighs 1;", "holder h# breath 5 laughs 0;"));
        due(y.image(), 68);
        due(y.octet(66), 0);
        due(y.octet(67) >= 0, true);
        Bounds.dueToEach(NONE, y::octet, 68, 69, -1);
    }

    static void promise32OfTheLatestImage() {
        Called x = Called.of(TWO);
        due(x.image(), 16);
        x.give(0, 7);
        due(x.octet(2), 60);
        due(x.image(), 16);
        due(x.octet(2), 7);
        x.undo();
        due(x.octet(2), 7);
        due(x.read("!"), NONE);
        due(x.octet(2), 7);
        due(x.read(""), 0);
        due(x.octet(2), 7);
        due(x.octet(15) >= 0, true);
        due(x.image(), 2);
        due(x.octet(1), 33);
        due(x.octet(2), NONE);
    }

    // ---- promise 33

    static void promise33AnImageTakenBack() {
        Called x = Called.of(TWO);
        x.drive(1);
        x.give(0, 9);
        x.put(Called.closed(OF_TWO));
        due(x.goOn(), true);
        due(x.status(4), 0);
        due(x.has(4), 1);
        due(x.has(5), 0);
        due(x.has(6), 0);
        due(x.undo(), false);
        due(x.holder(0, 0), 0);
        due(x.holder(0, 1), 5);
        due(x.holder(0, 3), 60);
        due(x.score(0), -99999);
        due(x.holder(0, 10), 0);
        due(x.holder(0, 11), 60);
        due(x.holder(1, 0), 60);
        due(x.holder(1, 1), 6);
        due(x.holder(1, 3), 0);
        due(x.score(1), 99999);
        due(x.holder(1, 10), 60);
        due(x.holder(1, 11), 0);
        octets(x, OF_TWO);
    }

    static void promise33TheSeedStays() {
        Called x = Called.of(TWO);
        x.drive(3);
        int seed = x.has(7);
        due(x.goOnWith(Called.closed(OF_TWO)), true);
        due(x.has(7), seed);
    }

    static void promise33WithoutTunnelsOrHolders() {
        Called x = new Called();
        due(x.goOnWith(0, 33), true);
        due(x.goOnWith(Called.closed(1)), false);
        due(x.goOnWith(Called.closed(0, 0)), false);
        x = Called.of(T + "tunnel u gap 1 at 5 weighs 1;");
        due(x.goOnWith(Called.closed(1)), true);
        due(x.has(4), 1);
        due(x.goOnWith(Called.closed(2)), false);
        due(x.goOnWith(Called.closed(0)), true);
        due(x.has(4), 0);
        x = Called.of(H);
        due(x.goOnWith(Called.closed(0, 0, 59, 1, 134, 161)), true);
        due(x.holder(0, 0), 0);
        due(x.holder(0, 3), 59);
        due(x.score(0), 1);
        due(x.goOnWith(Called.closed(1, 0, 59, 1, 134, 161)), false);
        due(x.goOnWith(Called.closed(0, 0, 59, 1, 134, 161, 0)), false);
    }

    static void promise33MoreTunnelsThanHoldersAndFewer() {
        int[] wide = {2, 20, 60, 1, 134, 161, 7, 8, 9};
        Called x = Called.of(Bounds.many(3, 1));
        due(x.goOnWith(Called.closed(wide)), true);
        due(x.score(0), 1);
        for (int t = 0; t < 3; t++) {
            due(x.holder(0, 10 + t), 7 + t);
        }
        octets(x, wide);
        int[] high = {0, 20, 30, 1, 134, 161, 7, 21, 31, 1, 134, 162, 8, 22, 32, 1, 134, 163, 9};
        x = Called.of(Bounds.many(1, 3));
        due(x.goOnWith(Called.closed(high)), true);
        for (int h = 0; h < 3; h++) {
            due(x.score(h), 1 + h);
            due(x.holder(h, 10), 7 + h);
        }
        octets(x, high);
    }

    static void promise33ATunnelThatThereIs() {
        StringBuilder text = new StringBuilder();
        for (int n = 1; n <= 6; n++) {
            text.append("tunnel t").append((char) ('a' + n)).append(" gap 1 at 5 weighs 1;");
            Called x = Called.of(text.toString());
            due(x.goOnWith(Called.closed(n - 1)), true);
            due(x.has(4), n - 1);
            due(x.goOnWith(Called.closed(n)), false);
            due(x.goOnWith(Called.closed(255)), false);
            due(x.has(4), n - 1);
            due(x.status(4), 2);
        }
    }

    static void promise33SecondsOfSixtyAndOfSixtyOne() {
        for (int at : new int[] {1, 2, 6, 7, 8, 9, 13, 14}) {
            for (int seconds : new int[] {0, 59, 60}) {
                Called x = Called.of(TWO);
                int[] bytes = OF_TWO.clone();
                bytes[at] = seconds;
                due(x.goOnWith(Called.closed(bytes)), true);
                octets(x, bytes);
            }
            for (int seconds : new int[] {61, 62, 128, 255}) {
                Called x = Called.of(TWO);
                int[] bytes = OF_TWO.clone();
                bytes[at] = seconds;
                due(x.goOnWith(Called.closed(bytes)), false);
                octets(x, 0, 5, 60, 1, 134, 160, 0, 0, 6, 60, 1, 134, 160, 0, 0);
            }
        }
    }

    static void promise33ScoresAsTheyCanBe() {
        for (int at : new int[] {3, 10}) {
            for (int shown : new int[] {1, 2, 65535, 65536, 100000, 199998, 199999}) {
                due(Called.of(TWO).goOnWith(withScore(at, shown)), true);
            }
            for (int shown : new int[] {0, 200000, 200001, 262143, 0x800000, 0xffffff}) {
                due(Called.of(TWO).goOnWith(withScore(at, shown)), false);
            }
        }
    }

    private static int[] withScore(int at, int shown) {
        int[] bytes = OF_TWO.clone();
        bytes[at] = shown >> 16;
        bytes[at + 1] = shown >> 8 & 255;
        bytes[at + 2] = shown & 255;
        return Called.closed(bytes);
    }

    static void promise33OneByteTooFewAndOneTooMany() {
        Called x = Called.of(TWO);
        int[] whole = Called.closed(OF_TWO);
        for (int n = 0; n < whole.length; n++) {
            due(x.goOnWith(Arrays.copyOf(whole, n)), false);
        }
        for (int n = 0; n < OF_TWO.length; n++) {
            due(x.goOnWith(Called.closed(Arrays.copyOf(OF_TWO, n))), false);
        }
        due(x.goOnWith(Called.closed(whole)), false);
        due(x.goOnWith(Arrays.copyOf(whole, whole.length + 1)), false);
        due(x.goOnWith(Called.closed(Arrays.copyOf(OF_TWO, OF_TWO.length + 1))), false);
        due(x.status(4), whole.length + OF_TWO.length + 3);
        due(x.goOnWith(whole), true);
    }

    /** The tape full of bytes is none either. */
    static void promise33NoBytesAndAllBytes() {
        Called x = Called.of(TWO);
        due(x.goOn(), false);
        due(x.goOnWith(new int[1600]), false);
        due(x.status(4), 2);
        due(x.feed(0, 0, 0, 0, 0), 20);
    }

    static void promise33AWrongLastByte() {
        int[] right = Called.closed(OF_TWO);
        int last = right.length - 1;
        Called x = Called.of(TWO);
        for (int octet = 0; octet < 256; octet++) {
            if (octet % 16 == 0 || Math.abs(octet - right[last]) < 3) {
                int[] bytes = right.clone();
                bytes[last] = octet;
                due(x.goOnWith(bytes), octet == right[last]);
            }
        }
        // A byte of 251 and more is never it, though it is alike mod 251.
        for (int least = 0; least < 61; least++) {
            int[] bytes = OF_TWO.clone();
            bytes[1] = least;
            int[] all = Called.closed(bytes);
            if (all[last] < 5) {
                due(x.goOnWith(all), true);
                all[last] += 251;
                due(x.goOnWith(all), false);
            }
        }
    }

    /** Each byte is among those ahead of the last one, in its place. */
    static void promise33EachByteCounts() {
        int[] right = Called.closed(OF_TWO);
        Called x = Called.of(TWO);
        for (int at = 0; at < OF_TWO.length; at++) {
            int[] bytes = right.clone();
            bytes[at] = bytes[at] == 0 ? 1 : bytes[at] - 1;
            due(x.goOnWith(bytes), false);
        }
        int[] swapped = right.clone();
        swapped[1] = right[2];
        swapped[2] = right[1];
        due(x.goOnWith(swapped), false);
    }

    static void promise33RefusedAllStays() {
        Called x = Bounds.used();
        Bounds.refuses(x, 4, () -> Bounds.asNone(x.goOn()), () -> Bounds.asNone(x.goOnWith(Called.closed(2))),
            () -> Bounds.asNone(x.goOnWith(Called.closed(0, 61, 60, 1, 134, 160, 0, 0, 5, 60, 1, 134, 160, 0, 0))),
            () -> Bounds.asNone(x.goOnWith(Called.closed(1, 1, 1, 1, 134, 160, 1, 1, 1, 1, 1, 134, 160, 1, 61))),
            () -> Bounds.asNone(x.goOnWith(Called.closed(1, 1, 1, 1, 134, 160, 1, 1, 1, 1, 0, 0, 0, 1, 1))));
        due(x.end(1), false);
        due(x.undo(), true);
    }

    static void promise33TheTapeGoes() {
        Called x = Called.of(TWO);
        due(x.goOnWith(Called.closed(OF_TWO)), true);
        due(x.end(1), false);
        due(x.goOn(), false);
        due(x.goOnWith(1, 2, 3), false);
        due(x.end(1), false);
        due(x.feed(0, 0, 0, 0, 0), 20);
    }

    static void promise33OfThisRoad() {
        Called x = Called.of(TWO);
        due(x.read("tunnel ta gap 1 at 5 weighs 1;holder ha breath 5 laughs 0;holder hb breath 6 laughs 0;"), 3);
        due(x.goOnWith(Called.closed(OF_TWO)), false);
        due(x.goOnWith(Called.closed(0, 0, 60, 0, 0, 1, 0, 60, 0, 3, 13, 63, 60)), true);
        due(x.score(1), 99999);
    }

    // ---- promise 34

    private static void counts(Called x, int... want) {
        for (int kind = 0; kind < 5; kind++) {
            due(x.status(kind), want[kind]);
        }
    }

    static void promise34EachCountByItself() {
        Called x = Called.of(TWO);
        counts(x, 0, 0, 0, 0, 0);
        x.end(1);
        counts(x, 1, 0, 0, 0, 0);
        x.end(-1);
        counts(x, 2, 0, 0, 0, 0);
        x.read("!");
        counts(x, 2, 1, 0, 0, 0);
        x.drive(0);
        counts(x, 2, 1, 1, 0, 0);
        x.believe(2, 0, 0);
        counts(x, 2, 1, 2, 0, 0);
        x.give(2, 0);
        counts(x, 2, 1, 3, 0, 0);
        x.undo();
        counts(x, 2, 1, 3, 1, 0);
        x.seed(-1);
        counts(x, 2, 1, 3, 1, 1);
        x.faces(0);
        counts(x, 2, 1, 3, 1, 2);
        x.goOn();
        counts(x, 2, 1, 3, 1, 3);
    }

    static void promise34AFullTapeIsCounted() {
        Called x = new Called();
        for (int i = 0; i < 80; i++) {
            x.feed(0, 0, 0, 0, 0);
        }
        counts(x, 0, 0, 0, 0, 0);
        x.feed(0, 0, 0, 0, 0);
        counts(x, 1, 0, 0, 0, 0);
        x.end(1601);
        counts(x, 2, 0, 0, 0, 0);
    }

    static void promise34Others() {
        Called x = new Called();
        Bounds.dueToEach(NONE, x::status, -1, 5, LEAST, MOST);
        due(x.status(4), 0);
    }

    static void promise34WhatIsDoneIsNotCounted() {
        Called x = Called.of(TWO);
        x.feed(0, 0, 0, 0, 0);
        x.end(0);
        x.drive(1);
        x.pause();
        x.believe(0, 0, 0);
        x.give(0, 0);
        x.undo();
        x.seed(0);
        x.put(0, 0);
        x.faces(0);
        x.goOnWith(Called.closed(OF_TWO));
        x.read("");
        counts(x, 0, 0, 0, 0, 0);
    }

    static void promise34WhatIsAskedIsNotCounted() {
        Called x = Called.of(TWO);
        x.fault(9);
        x.has(9);
        x.letter(9, 9, 9);
        x.tunnel(9, 9);
        x.holder(9, 9);
        x.score(9);
        x.likely(9, 9);
        x.holds(9, 9, 99);
        x.made(9, 9);
        x.worth(9, 9, 99);
        x.tired(9, 9, 99, 99);
        x.alone(9, 9, 9);
        x.on(9, 9, 9);
        x.rest(9, 9);
        x.hidden(9, 9, 9);
        x.pace(9, 99, 9);
        x.whom(9, 9, 9);
        x.fit(9);
        x.kept(99, 9);
        x.octet(999);
        x.status(9);
        counts(x, 0, 0, 0, 0, 0);
    }

    static void promise34StaysBehindARoadAnUndoAndAnImage() {
        Called x = Called.of(TWO);
        x.end(1);
        x.read("!");
        x.drive(0);
        x.undo();
        x.seed(-1);
        counts(x, 1, 1, 1, 1, 1);
        x.give(0, 5);
        x.drive(0);
        x.undo();
        counts(x, 1, 1, 2, 1, 1);
        due(x.goOnWith(Called.closed(OF_TWO)), true);
        counts(x, 1, 1, 2, 1, 1);
        due(x.read(TWO), 4);
        counts(x, 1, 1, 2, 1, 1);
    }

    static void promise34ManyOfAKind() {
        Called x = new Called();
        for (int i = 1; i <= 300; i++) {
            x.undo();
        }
        due(x.status(3), 300);
    }
}
