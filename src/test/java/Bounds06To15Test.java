import java.util.List;

/** Boundary cases of what is asked of TUNNELS and HOLDERS, and of who holds. */
public final class Bounds06To15Test {
    private static final int NONE = Bounds.NONE;
    private static final int NOTHING = Bounds.NOTHING;
    private static final int LEAST = Bounds.LEAST;
    private static final int MOST = Bounds.MOST;
    private static final String T = "tunnel t gap 1 at 5 weighs 1;";
    private static final String H = "holder h breath 5 laughs 0;";
    private static final String TWO = "tunnel ta gap 1 at 5 weighs 1;tunnel tb gap 2 at 6 weighs 2;"
        + "holder ha breath 5 laughs 1;holder hb breath 6 laughs 2;";

    public static void main(String[] args) {
        Bounds.run(Bounds06To15Test.class, 6, 15);
    }

    private static void due(long got, long want) {
        Bounds.due(got, want);
    }

    private static void due(boolean got, boolean want) {
        Bounds.due(got, want);
    }

    private static String tunnels(int n) {
        StringBuilder text = new StringBuilder();
        for (int t = 0; t < n; t++) {
            text.append("tunnel t").append((char) ('a' + t)).append(" gap ").append(10 + t).append(" at 5 weighs 1;");
        }
        return text.toString();
    }

    private static String holders(int n) {
        StringBuilder text = new StringBuilder();
        for (int h = 0; h < n; h++) {
            text.append("holder h").append((char) ('a' + h)).append(" breath ").append(20 + h).append(" laughs 0;");
        }
        return text.toString();
    }

    // ---- promise 6

    static void promise06AnotherWhat() {
        Bounds.dueToEach(NONE, new Called()::has, -1, 8, 9, LEAST, MOST);
        Bounds.dueToEach(NONE, Called.of(TWO)::has, -1, 8, 9, LEAST, MOST);
    }

    static void promise06TunnelsAndHolders() {
        for (int n = 0; n <= 6; n++) {
            Called x = Called.of(tunnels(n) + holders(6 - n));
            due(x.has(0), n);
            due(x.has(1), 6 - n);
        }
    }

    static void promise06SeenAndFine() {
        Called x = Called.of("seen 100;fine 999;");
        due(x.has(2), 100);
        due(x.has(3), 999);
        x.read("seen 0;fine 0;");
        due(x.has(2), 0);
        due(x.has(3), 0);
        x.read("");
        due(x.has(2), 0);
        due(x.has(3), 0);
    }

    static void promise06TheNextTunnelWithoutTunnels() {
        due(new Called().has(4), 0);
        Called x = Called.of(H);
        due(x.drive(1), NONE);
        due(x.has(4), 0);
    }

    static void promise06BehindTheLastTunnelTheFirstOne() {
        for (int n = 1; n <= 6; n++) {
            Called x = Called.of(tunnels(n));
            for (int i = 1; i <= 2 * n; i++) {
                x.drive(1);
                due(x.has(4), i % n);
            }
            x.drive(29);
            due(x.has(4), 29 % n);
        }
    }

    static void promise06ThoseToldAsKept() {
        Called x = Called.of(T + H);
        due(x.has(5), 0);
        x.drive(1);
        due(x.has(5), 1);
        x.drive(30);
        x.drive(16);
        due(x.has(5), 47);
        x.drive(1);
        due(x.has(5), 48);
        x.drive(1);
        due(x.has(5), 48);
        x.drive(30);
        x.drive(30);
        due(x.has(5), 48);
        x = Called.of(T);
        x.drive(30);
        due(x.has(5), 0);
    }

    static void promise06ActsThatCanBeUndone() {
        Called x = Called.of(T + H);
        for (int i = 1; i <= 25; i++) {
            x.give(0, i);
            due(x.has(6), Math.min(i, 20));
        }
        x.undo();
        due(x.has(6), 19);
        x.give(0, 61);
        due(x.has(6), 19);
    }

    static void promise06TheSeed() {
        Called x = new Called();
        due(x.has(7), 1);
        x.seed(0);
        due(x.has(7), 0);
        x.seed(MOST);
        due(x.has(7), MOST);
        x.seed(-1);
        due(x.has(7), MOST);
    }

    static void promise06AsksAlone() {
        Called x = Bounds.used();
        Bounds.same(Bounds.all(x), Bounds.all(x));
    }

    /** Whatever is asked, be it there or not: the tape, the seed and all else stay. */
    static void promise06NoCallThatAsksChangesAnything() {
        Called x = Bounds.used();
        x.put("seen 77;");
        List<String> before = Bounds.all(x);
        for (int i = -1; i <= 2; i++) {
            x.fault(i);
            x.letter(i, 0, i);
            x.tunnel(i, 10);
            x.holder(i, 11);
            x.score(i);
            x.likely(i, 4);
            x.holds(i, 0, 4);
            x.made(0, i);
            x.worth(i, 1, 6);
            x.tired(1, i, 6, 5);
            x.alone(1, 1, i);
            x.on(1, 3, i);
            x.rest(i, NONE);
            x.rest(1, i);
            x.hidden(1, 0, i);
            x.pace(1, 3, i);
            x.whom(1, 0, i);
            x.fit(i);
            x.kept(i, 3);
            x.octet(i);
            x.status(i);
        }
        Bounds.same(before, Bounds.all(x));
        for (int kind = 0; kind < 5; kind++) {
            due(x.status(kind), kind == 1 ? 1 : 0);
        }
        due(x.road(), 1);
        due(x.has(2), 77);
    }

    // ---- promise 7

    static void promise07TheFirstAndTheLastLetter() {
        Called x = Called.of("tunnel azmbyn gap 1 at 5 weighs 1;holder zaynbm breath 5 laughs 0;");
        int[] first = {1, 26, 13, 2, 25, 14};
        int[] second = {26, 1, 25, 14, 2, 13};
        for (int k = 0; k < 6; k++) {
            due(x.letter(0, 0, k), first[k]);
            due(x.letter(1, 0, k), second[k]);
        }
        Bounds.dueToEach(NONE, k -> x.letter(0, 0, k), -1, 6, 7, LEAST, MOST);
        Bounds.dueToEach(NONE, k -> x.letter(1, 0, k), -1, 6, 7, LEAST, MOST);
    }

    static void promise07EveryLetter() {
        for (char letter = 'a'; letter <= 'z'; letter++) {
            Called x = Called.of("holder " + letter + " breath 5 laughs 0;");
            due(x.letter(1, 0, 0), letter - 'a' + 1);
            due(x.letter(1, 0, 1), 0);
        }
    }

    static void promise07BehindTheName() {
        for (int n = 1; n <= 6; n++) {
            Called x = Called.of("tunnel " + "z".repeat(n) + " gap 1 at 5 weighs 1;");
            for (int k = 0; k < 6; k++) {
                due(x.letter(0, 0, k), k < n ? 26 : 0);
            }
            due(x.letter(0, 0, 6), NONE);
        }
    }

    static void promise07OfTheNamesThatAreNow() {
        Called x = Called.of("tunnel abcdef gap 1 at 5 weighs 1;holder zzzzzz breath 5 laughs 0;");
        due(x.read("tunnel zyxwvu gap 100;"), NONE);
        due(x.letter(0, 0, 0), 1);
        for (int i = 0; i < 2; i++) {
            due(x.read("tunnel z gap 1 at 5 weighs 1;holder b breath 5 laughs 0;"), 2);
            due(x.letter(0, 0, 0), 26);
            due(x.letter(0, 0, 1), 0);
            due(x.letter(1, 0, 0), 2);
            due(x.letter(1, 0, 5), 0);
        }
    }

    static void promise07NoneSuch() {
        Called x = Called.of(tunnels(6) + holders(2));
        due(x.letter(0, 5, 1), 6);
        Bounds.dueToEach(NONE, t -> x.letter(0, t, 0), -1, 6, LEAST, MOST);
        due(x.letter(1, 1, 1), 2);
        Bounds.dueToEach(NONE, h -> x.letter(1, h, 0), -1, 2, 5, LEAST, MOST);
        Bounds.dueToEach(NONE, kind -> x.letter(kind, 0, 0), -1, 2, LEAST, MOST);
    }

    // ---- promise 8

    static void promise08LengthsAndWeights() {
        StringBuilder row = new StringBuilder("tunnel t gap 99");
        for (int n = 1; n <= 4; n++) {
            row.append(" at ").append(61 - 15 * n).append(" weighs ").append(10 - n);
            Called x = Called.of(row + ";");
            due(x.tunnel(0, 1), n);
            for (int k = 0; k < 4; k++) {
                due(x.tunnel(0, 10 + k), k < n ? 61 - 15 * (k + 1) : NONE);
                due(x.tunnel(0, 20 + k), k < n ? 9 - k : NONE);
            }
            Bounds.dueToEach(NONE, what -> x.tunnel(0, what), 9, 14, 19, 24);
        }
    }

    static void promise08GapAndAllWeights() {
        Called x = Called.of("tunnel a gap 0 at 5 weighs 1;tunnel b gap 99 at 1 weighs 9 at 2 weighs 9 at 3 weighs 9"
            + " at 60 weighs 9;");
        due(x.tunnel(0, 0), 0);
        due(x.tunnel(0, 2), 1);
        due(x.tunnel(1, 0), 99);
        due(x.tunnel(1, 2), 36);
        due(x.tunnel(1, 13), 60);
    }

    static void promise08AnotherWhat() {
        Called x = Called.of("tunnel t gap 1 at 1 weighs 1 at 2 weighs 2 at 3 weighs 3 at 4 weighs 4;");
        due(x.tunnel(0, 2), 10);
        due(x.tunnel(0, 10), 1);
        due(x.tunnel(0, 13), 4);
        due(x.tunnel(0, 20), 1);
        due(x.tunnel(0, 23), 4);
        Bounds.dueToEach(NONE, what -> x.tunnel(0, what), -1, 3, 9, 14, 19, 24, 30, LEAST, MOST);
    }

    static void promise08NoneSuch() {
        for (int n = 0; n <= 6; n++) {
            Called x = Called.of(tunnels(n));
            if (n > 0) {
                due(x.tunnel(n - 1, 0), 9 + n);
            }
            Bounds.dueToEach(NONE, t -> x.tunnel(t, 0), -1, n, LEAST, MOST);
            Bounds.dueToEach(NONE, t -> x.tunnel(t, 10), -1, n, LEAST, MOST);
        }
    }

    /** All rows full: what stands beside a row is not of it. */
    static void promise08SixTunnelsOfFourLengths() {
        StringBuilder text = new StringBuilder();
        for (int t = 0; t < 6; t++) {
            text.append("tunnel t").append((char) ('a' + t)).append(" gap ").append(t);
            for (int k = 0; k < 4; k++) {
                text.append(" at ").append(10 * t + k + 1).append(" weighs ").append(t + k + 1);
            }
            text.append(';');
        }
        Called x = Called.of(text + "holder a breath 60 laughs 0;holder b breath 2 laughs 0;");
        for (int t = 0; t < 6; t++) {
            int all = 4 * t + 10;
            due(x.tunnel(t, 0), t);
            due(x.tunnel(t, 1), 4);
            due(x.tunnel(t, 2), all);
            for (int k = 0; k < 4; k++) {
                due(x.tunnel(t, 10 + k), 10 * t + k + 1);
                due(x.tunnel(t, 20 + k), t + k + 1);
            }
            due(x.likely(t, 10 * t), 1000);
            due(x.likely(t, 10 * t + 3), 1000 * (t + 4) / all);
            due(x.likely(t, 10 * t + 4), 0);
            due(x.made(0, t), 1000);
            due(x.made(1, t), t == 0 ? 300 : 0);
        }
    }

    /** Nor is what stands there of what is drawn, likely or best. */
    static void promise08WhatStandsBesideARowIsNotOfIt() {
        String four = " gap 9 at 1 weighs 9 at 2 weighs 9 at 3 weighs 9 at 60 weighs 9;";
        Called x = Called.of("tunnel ta" + four + "tunnel tb gap 1 at 5 weighs 1 at 60 weighs 1;tunnel tc" + four
            + "holder ha breath 60 laughs 0;worth if(gap=1,held,0-held);");
        due(x.tunnel(1, 1), 2);
        due(x.tunnel(1, 2), 2);
        due(x.likely(1, 59), 500);
        due(x.likely(1, 4), 1000);
        due(x.rest(1, NONE), 1);
        due(x.rest(1, 0), 60);
        due(x.alone(0, 1, 1), 32500);
        due(x.whom(0, 1, 1), 32500);
        due(x.hidden(0, 1, 1), 32500);
        due(x.goOnWith(Called.closed(1, 60, 60, 1, 134, 160, 0, 0, 0)), true);
        int[] times = new int[61];
        for (int i = 0; i < 40; i++) {
            x.drive(1);
            times[x.kept(x.has(5) - 1, 1)]++;
            x.drive(2);
        }
        due(times[5] > 5, true);
        due(times[60] > 5, true);
        due(times[5] + times[60], 40);
        x = Called.of("tunnel ta" + four + "tunnel tb gap 1 at 5 weighs 1 at 60 weighs 1;holder ha breath 60 laughs 0;"
            + "worth if(long=5,held*3,0-held);");
        due(x.rest(1, 0), 5);
        due(x.alone(0, 1, 0), 5);
        due(x.alone(0, 1, 1), 5000);
    }

    // ---- promise 9

    static void promise09WhatHeBelievesOfEachTunnel() {
        for (int n = 0; n <= 6; n++) {
            Called x = Called.of(tunnels(n) + H);
            for (int t = 0; t < n; t++) {
                due(x.holder(0, 10 + t), 0);
                x.believe(0, t, 60 - t);
            }
            for (int t = 0; t < n; t++) {
                due(x.holder(0, 10 + t), 60 - t);
            }
            Bounds.dueToEach(NONE, what -> x.holder(0, what), 9, 10 + n, 16);
        }
    }

    static void promise09AnotherWhat() {
        Called x = Called.of(TWO);
        due(x.holder(1, 3), 60);
        Bounds.dueToEach(NONE, what -> x.holder(1, what), -1, 4, 9, 12, 20, LEAST, MOST);
    }

    static void promise09NoneSuch() {
        for (int n = 0; n <= 6; n++) {
            Called x = Called.of(holders(n));
            if (n > 0) {
                due(x.holder(n - 1, 0), 19 + n);
            }
            Bounds.dueToEach(NONE, h -> x.holder(h, 0), -1, n, LEAST, MOST);
        }
    }

    static void promise09LaughsOfEach() {
        StringBuilder text = new StringBuilder();
        for (int h = 0; h < 6; h++) {
            text.append("holder h").append((char) ('a' + h)).append(" breath 5 laughs ").append(50 - 7 * h).append(';');
        }
        Called x = Called.of(text.toString());
        for (int h = 0; h < 6; h++) {
            due(x.holder(h, 2), 50 - 7 * h);
        }
    }

    static void promise09BreathNowAndAtFirst() {
        Called x = Called.of(T + H + "tires breath-3;");
        int[] now = {5, 2, 0, 0};
        for (int i = 0; i < now.length; i++) {
            due(x.holder(0, 0), now[i]);
            due(x.holder(0, 1), 5);
            x.drive(1);
        }
        x = Called.of(T + H + "tires 99;");
        x.drive(1);
        due(x.holder(0, 0), 60);
        due(x.holder(0, 1), 5);
    }

    // ---- promise 10

    static void promise10NoneSuch() {
        for (int n = 0; n <= 6; n++) {
            Called x = Called.of(holders(n));
            if (n > 0) {
                due(x.score(n - 1), 0);
            }
            Bounds.dueToEach(NOTHING, x::score, -1, n, LEAST, MOST);
        }
    }

    static void promise10AScoreOfMinusOneIsOne() {
        Called x = Called.of(T + H + "worth 0-1;");
        x.drive(1);
        due(x.score(0), -1);
        due(x.score(1), NOTHING);
    }

    /** A HOLDER who gets so much, with so much ahead of it. */
    private static void scores(int ahead, String worth, int want) {
        Called x = Called.of(T + H + "worth " + worth + ";");
        int shown = ahead + 100000;
        due(x.goOnWith(Called.closed(0, 5, 60, shown >> 16, shown >> 8 & 255, shown & 255, 0)), true);
        due(x.score(0), ahead);
        x.drive(1);
        due(x.score(0), want);
    }

    static void promise10TheMostAndTheLeast() {
        scores(99000, "999", 99999);
        scores(98999, "999", 99998);
        scores(99001, "999", 99999);
        scores(99998, "1", 99999);
        scores(99999, "1", 99999);
        scores(99999, "9999", 99999);
        scores(99999, "0-1", 99998);
        scores(-99000, "0-999", -99999);
        scores(-98999, "0-999", -99998);
        scores(-99001, "0-999", -99999);
        scores(-99998, "0-1", -99999);
        scores(-99999, "0-1", -99999);
        scores(-99999, "1", -99998);
        scores(0, "0", 0);
    }

    /** Each TUNNEL by itself: what was cut off does not come back. */
    static void promise10TheMostTunnelByTunnel() {
        Called x = Called.of("tunnel ta gap 1 at 5 weighs 1;tunnel tb gap 2 at 5 weighs 1;" + H
            + "worth if(gap=1,100,0-100);");
        due(x.goOnWith(Called.closed(0, 5, 60, 3, 13, 63, 0, 0)), true);
        x.drive(2);
        due(x.score(0), 99899);
    }

    // ---- promise 11

    static void promise11Seconds() {
        Called x = Called.of("tunnel t gap 1 at 1 weighs 1 at 60 weighs 2;");
        due(x.likely(0, 0), 1000);
        due(x.likely(0, 1), 666);
        due(x.likely(0, 59), 666);
        due(x.likely(0, 60), 0);
        due(x.likely(0, 61), 0);
        due(x.likely(0, MOST), 0);
        Bounds.dueToEach(NONE, seconds -> x.likely(0, seconds), -1, -60, LEAST);
    }

    static void promise11TheFloor() {
        Called x = Called.of("tunnel t gap 1 at 5 weighs 9 at 6 weighs 9 at 7 weighs 9 at 8 weighs 8;");
        due(x.likely(0, 5), 26000 / 35);
        due(x.likely(0, 6), 17000 / 35);
        due(x.likely(0, 7), 8000 / 35);
        Called third = Called.of("tunnel t gap 1 at 7 weighs 1 at 5 weighs 2;");
        due(third.likely(0, 6), 333);
        due(third.likely(0, 4), 1000);
    }

    static void promise11NoneSuch() {
        for (int n = 0; n <= 6; n++) {
            Called x = Called.of(tunnels(n) + H);
            if (n > 0) {
                due(x.likely(n - 1, 0), 1000);
            }
            Bounds.dueToEach(NONE, t -> x.likely(t, 0), -1, n, LEAST, MOST);
        }
    }

    // ---- promise 12

    static void promise12LengthsOfOneAndOfSixty() {
        Called x = Called.of(T + "holder h breath 60 laughs 50;");
        due(x.holds(0, 0, 1), 1);
        due(x.holds(0, 0, 60), 60);
        Bounds.dueToEach(NONE, length -> x.holds(0, 0, length), 0, 61, -1, LEAST, MOST);
    }

    static void promise12TheLeastOfThree() {
        Called x = Called.of(T + "holder h breath 10 laughs 0;");
        due(x.holds(0, 0, 9), 9);
        due(x.holds(0, 0, 10), 10);
        due(x.holds(0, 0, 11), 10);
        x.give(0, 9);
        due(x.holds(0, 0, 8), 8);
        due(x.holds(0, 0, 9), 9);
        due(x.holds(0, 0, 10), 9);
        x.give(0, 10);
        due(x.holds(0, 0, 60), 10);
        x.give(0, 11);
        due(x.holds(0, 0, 60), 10);
        x.give(0, 0);
        due(x.holds(0, 0, 1), 0);
        x.give(0, 1);
        due(x.holds(0, 0, 60), 1);
    }

    static void promise12WhatHeBelieves() {
        Called x = Called.of(tunnels(2) + "holder h breath 10 laughs 0;");
        x.believe(0, 0, 10);
        due(x.holds(0, 0, 5), 5);
        x.believe(0, 0, 11);
        due(x.holds(0, 0, 5), 0);
        due(x.holds(0, 0, 60), 0);
        due(x.holds(0, 1, 5), 5);
        x.give(0, 7);
        x.believe(0, 0, 7);
        due(x.holds(0, 0, 5), 5);
        x.believe(0, 0, 8);
        due(x.holds(0, 0, 5), 0);
        x.give(0, 60);
        due(x.holds(0, 0, 5), 5);
        x.believe(0, 0, 0);
        x.give(0, 0);
        due(x.holds(0, 0, 5), 0);
        x.believe(0, 0, 1);
        x.give(0, 1);
        due(x.holds(0, 0, 5), 1);
    }

    static void promise12NoBreathLeft() {
        Called x = Called.of(T + H);
        due(x.goOnWith(Called.closed(0, 0, 60, 1, 134, 160, 0)), true);
        due(x.holds(0, 0, 1), 0);
        due(x.holds(0, 0, 60), 0);
        x.believe(0, 0, 1);
        due(x.holds(0, 0, 1), 0);
    }

    static void promise12NoneSuch() {
        Called x = Called.of(TWO);
        due(x.holds(1, 1, 6), 6);
        Bounds.dueToEach(NONE, h -> x.holds(h, 0, 5), -1, 2, LEAST, MOST);
        Bounds.dueToEach(NONE, t -> x.holds(0, t, 5), -1, 2, LEAST, MOST);
        due(Called.of(T).holds(0, 0, 5), NONE);
        due(Called.of(H).holds(0, 0, 5), NONE);
    }

    static void promise12JustThoseThatThereAre() {
        Bounds.dueToNoneSuch(NONE, (x, h, t) -> x.holds(h, t, 5));
    }

    static void promise12OfThisHolderInThisTunnel() {
        Called x = Called.of(Bounds.UNLIKE);
        Bounds.dueOfEach(x, (y, h, t) -> y.holds(h, t, 8), 0, 6, 6, 8, 8, 0);
    }

    // ---- promise 13

    static void promise13JustItsLengthAndOneLess() {
        Called x = Called.of("tunnel t gap 1 at 10 weighs 1;holder a breath 10 laughs 50;holder b breath 9 laughs 0;"
            + "holder c breath 60 laughs 0;");
        due(x.made(0, 0), 1000);
        due(x.made(1, 0), 0);
        due(x.made(2, 0), 1000);
        x.give(2, 10);
        due(x.made(2, 0), 1000);
        x.give(2, 9);
        due(x.made(2, 0), 0);
        x.give(2, 60);
        x.believe(2, 0, 60);
        due(x.made(2, 0), 1000);
        x.believe(0, 0, 11);
        due(x.made(0, 0), 0);
    }

    static void promise13TheFloor() {
        Called x = Called.of("tunnel t gap 1 at 3 weighs 1 at 2 weighs 1 at 4 weighs 1;holder a breath 2 laughs 0;"
            + "holder b breath 3 laughs 0;holder c breath 4 laughs 0;holder d breath 1 laughs 0;");
        due(x.made(0, 0), 333);
        due(x.made(1, 0), 666);
        due(x.made(2, 0), 1000);
        due(x.made(3, 0), 0);
    }

    static void promise13AsAllIsNow() {
        Called x = Called.of("tunnel t gap 1 at 3 weighs 1 at 2 weighs 3;holder h breath 3 laughs 50;tires breath-1;");
        due(x.made(0, 0), 1000);
        x.drive(1);
        due(x.made(0, 0), 750);
        x.drive(1);
        due(x.made(0, 0), 0);
        x.pause();
        due(x.made(0, 0), 1000);
        x.undo();
        x.undo();
        due(x.made(0, 0), 750);
    }

    static void promise13NoneSuch() {
        Called x = Called.of(TWO);
        due(x.made(1, 1), 1000);
        Bounds.dueToEach(NONE, h -> x.made(h, 0), -1, 2, LEAST, MOST);
        Bounds.dueToEach(NONE, t -> x.made(0, t), -1, 2, LEAST, MOST);
        due(Called.of(T).made(0, 0), NONE);
        due(Called.of(H).made(0, 0), NONE);
    }

    static void promise13JustThoseThatThereAre() {
        Bounds.dueToNoneSuch(NONE, (x, h, t) -> x.made(h, t));
    }

    static void promise13OfThisHolderInThisTunnel() {
        Called x = Called.of(Bounds.UNLIKE);
        Bounds.dueOfEach(x, (y, h, t) -> y.made(h, t), 0, 750, 0, 1000, 1000, 0);
    }

    // ---- promise 14

    private static void sum(String sum, int want) {
        Called x = Called.of("tunnel t gap 7 at 5 weighs 1;holder h breath 8 laughs 0;worth " + sum + ";");
        int got = x.worth(0, 0, 5);
        Called.latest = "worth(0, 0, 5) with worth " + sum;
        due(got, want);
    }

    static void promise14TheMostAndTheLeastWorth() {
        sum("998", 998);
        sum("999", 999);
        sum("1000", 999);
        sum("9999*9999", 999);
        sum("0-998", -998);
        sum("0-999", -999);
        sum("0-1000", -999);
        sum("0-9999*9999", -999);
        sum("0-1", -1);
        sum("0", 0);
    }

    static void promise14WithoutASum() {
        Called x = Called.of(TWO + "tires 9;");
        due(x.worth(0, 0, 5), 0);
        due(x.worth(1, 1, 60), 0);
    }

    static void promise14LengthsOfOneAndOfSixty() {
        Called x = Called.of(TWO + "worth long*10+held;");
        due(x.worth(0, 0, 1), 11);
        due(x.worth(1, 1, 60), 606);
        Bounds.dueToEach(NOTHING, length -> x.worth(0, 0, length), 0, 61, -1, LEAST, MOST);
    }

    static void promise14NoneSuch() {
        Called x = Called.of(TWO + "worth 0-1;");
        due(x.worth(1, 1, 6), -1);
        Bounds.dueToEach(NOTHING, h -> x.worth(h, 0, 5), -1, 2, LEAST, MOST);
        Bounds.dueToEach(NOTHING, t -> x.worth(0, t, 5), -1, 2, LEAST, MOST);
        due(Called.of(T).worth(0, 0, 5), NOTHING);
        due(Called.of(H).worth(0, 0, 5), NOTHING);
    }

    static void promise14LastAndBeatenAmongLikeOnes() {
        Called x = Called.of(T + "holder a breath 5 laughs 0;holder b breath 5 laughs 0;holder c breath 4 laughs 0;"
            + "holder d breath 6 laughs 0;worth last*100+beaten;");
        due(x.worth(0, 0, 4), 100);
        due(x.worth(0, 0, 5), 101);
        due(x.worth(1, 0, 5), 101);
        due(x.worth(2, 0, 5), 0);
        due(x.worth(0, 0, 6), 1);
        due(x.worth(3, 0, 6), 103);
        for (int h = 0; h < 4; h++) {
            x.give(h, 0);
            due(x.worth(h, 0, 6), h < 3 ? 0 : 100);
        }
        due(x.worth(0, 0, 6), 100);
    }

    static void promise14BeatenByAllOthers() {
        Called x = Called.of(T + holders(6) + "worth last*100+beaten*10+made;");
        due(x.worth(5, 0, 25), 151);
        due(x.worth(4, 0, 25), 40);
        due(x.worth(0, 0, 25), 0);
        due(x.worth(0, 0, 20), 101);
        due(x.worth(5, 0, 60), 150);
    }

    static void promise14ResultsAboveAMillion() {
        sum("9999*100+99-9999*100", 99);
        sum("9999*100+100-9999*100", 100);
        sum("9999*100+101-9999*100", 100);
        sum("9999*9999-9999*100", 100);
        sum("1000*1000-9999*100", 100);
        sum("1001*1000-9999*100", 100);
        sum("9999*9999*9999*9999-9999*100", 100);
        sum("(9999*9999+9999*9999)/1001", 999);
        sum("9999*9999%1009", 1000000 % 1009);
    }

    static void promise14ResultsBelowAMillion() {
        sum("0-9999*100-99+9999*100", -99);
        sum("0-9999*100-100+9999*100", -100);
        sum("0-9999*100-101+9999*100", -100);
        sum("(0-9999)*9999+9999*100", -100);
        sum("(0-1000)*1000+9999*100", -100);
        sum("(0-1001)*1000+9999*100", -100);
        sum("(0-9999)*9999*9999*9999+9999*100", -100);
        sum("(0-9999)*9999*(0-1)-9999*100", 100);
    }

    static void promise14ByZero() {
        sum("7/0", 0);
        sum("7%0", 0);
        sum("0/0", 0);
        sum("0%0", 0);
        sum("(0-7)/0", 0);
        sum("(0-7)%0", 0);
        sum("5+7/0*3+1", 6);
        sum("7/(held-long)", 0);
        sum("9999*9999/(1-1)", 0);
    }

    static void promise14TheGreatestWholeNumberNotAbove() {
        sum("6/3", 2);
        sum("7/3", 2);
        sum("8/3", 2);
        sum("(0-6)/3", -2);
        sum("(0-7)/3", -3);
        sum("(0-8)/3", -3);
        sum("(0-9)/3", -3);
        sum("7/(0-3)", -3);
        sum("6/(0-3)", -2);
        sum("(0-7)/(0-3)", 2);
        sum("(0-1)/9999", -1);
        sum("1/9999", 0);
        sum("0/(0-5)", 0);
    }

    static void promise14WhatIsLeft() {
        sum("6%3", 0);
        sum("7%3", 1);
        sum("8%3", 2);
        sum("(0-6)%3", 0);
        sum("(0-7)%3", 2);
        sum("(0-8)%3", 1);
        sum("7%(0-3)", -2);
        sum("8%(0-3)", -1);
        sum("6%(0-3)", 0);
        sum("(0-7)%(0-3)", -1);
        sum("7%1", 0);
        sum("(0-1)%999", 998);
    }

    static void promise14FromTheLeftOn() {
        sum("9-4-3", 2);
        sum("100/7/2", 7);
        sum("7/2*2", 6);
        sum("2*7/2", 7);
        sum("17%10%4", 3);
        sum("100/7%5*3", 12);
        sum("2+3*4-5", 9);
        sum("9999*9999/9999*9", 900);
    }

    static void promise14TestsAtTheirBounds() {
        sum("if(4<5,1,2)", 1);
        sum("if(5<5,1,2)", 2);
        sum("if(6<5,1,2)", 2);
        sum("if(4>5,1,2)", 2);
        sum("if(5>5,1,2)", 2);
        sum("if(6>5,1,2)", 1);
        sum("if(4=5,1,2)", 2);
        sum("if(5=5,1,2)", 1);
        sum("if(6=5,1,2)", 2);
        sum("if(9999*9999=1000*1000,1,2)", 1);
        sum("if(9999*100+99<1000*1000,1,2)", 1);
        sum("min(4,4)+min(4,5)*10+min(5,4)*100", 444);
        sum("max(4,4)+max(4,5)*10+max(5,4)*100", 554);
        sum("min(0-1,0)-max(0-1,0)", -1);
    }

    static void promise14OrBehindAndBehindNot() {
        sum("if(all,1,2)", 1);
        sum("if(not all,1,2)", 2);
        sum("if(not 1=1,1,2)", 2);
        sum("if(not 1=2,1,2)", 1);
        sum("if(not not not all,1,2)", 2);
        sum("if(not[all],1,2)", 2);
        sum("if(not all or not all,1,2)", 2);
        sum("if(not all or all,1,2)", 1);
        sum("if(all or all and not all,1,2)", 1);
        sum("if([all or all]and not all,1,2)", 2);
        sum("if(not all and all,1,2)", 2);
        sum("if(not[all and not all],1,2)", 1);
        sum("if(not not all,1,2)", 1);
        sum("if(not 1=2 and 1=1,1,2)", 1);
        sum("if(1=2 or 1=3 or 1=1,1,2)", 1);
        sum("if(1=1 and 1=1 and 1=2,1,2)", 2);
    }

    static void promise14ByWhatIsNow() {
        Called x = Called.of(TWO + "worth breath*10+gap;tires breath-1;");
        due(x.worth(0, 0, 5), 51);
        due(x.worth(0, 1, 5), 52);
        x.drive(1);
        due(x.worth(0, 0, 5), 41);
        x.drive(30);
        due(x.worth(0, 0, 5), 1);
    }

    static void promise14JustThoseThatThereAre() {
        Bounds.dueToNoneSuch(NOTHING, (x, h, t) -> x.worth(h, t, 5));
    }

    static void promise14OfThisHolderInThisTunnel() {
        Called x = Called.of(Bounds.UNLIKE + "worth held*10+gap+last*3+beaten;");
        Bounds.dueOfEach(x, (y, h, t) -> y.worth(h, t, y.tunnel(t, 10)), 1, 70, 104, 55, 94, 40);
    }

    // ---- promise 15

    static void promise15HeldAllAndOneMore() {
        Called x = Called.of(TWO + "tires held*10+made;");
        due(x.tired(0, 0, 5, 0), 0);
        due(x.tired(0, 0, 5, 4), 40);
        due(x.tired(0, 0, 5, 5), 51);
        due(x.tired(0, 0, 5, 6), NONE);
        due(x.tired(0, 0, 1, 1), 11);
        due(x.tired(0, 0, 1, 2), NONE);
        Called other = Called.of(TWO + "tires held;");
        due(other.tired(0, 0, 60, 60), 60);
        due(other.tired(0, 0, 60, 59), 59);
        due(other.tired(0, 0, 59, 60), NONE);
        Bounds.dueToEach(NONE, held -> other.tired(0, 0, 60, held), -1, 61, LEAST, MOST);
    }

    static void promise15LengthsOfOneAndOfSixty() {
        Called x = Called.of(TWO + "tires long;");
        due(x.tired(0, 0, 1, 0), 1);
        due(x.tired(0, 0, 60, 0), 60);
        Bounds.dueToEach(NONE, length -> x.tired(0, 0, length, 0), 0, 61, -1, LEAST, MOST);
    }

    static void promise15TheMostAndTheLeastBreath() {
        String[] sums = {"0", "1", "59", "60", "61", "9999*9999", "0-1", "0-9999*9999", "breath-5", "breath-6", "breath+55",
            "breath+56"};
        int[] want = {0, 1, 59, 60, 60, 60, 0, 0, 0, 0, 60, 60};
        for (int i = 0; i < sums.length; i++) {
            Called x = Called.of(TWO + "tires " + sums[i] + ";");
            due(x.tired(0, 0, 5, 5), want[i]);
            x.drive(1);
            due(x.holder(0, 0), want[i]);
        }
    }

    static void promise15WithoutASum() {
        Called x = Called.of(TWO + "worth 9;");
        due(x.tired(0, 0, 60, 60), 5);
        due(x.tired(1, 0, 60, 0), 6);
        due(x.goOnWith(Called.closed(0, 0, 60, 1, 134, 160, 0, 0, 60, 60, 1, 134, 160, 0, 0)), true);
        due(x.tired(0, 0, 5, 5), 0);
        due(x.tired(1, 0, 5, 5), 60);
    }

    static void promise15AloneWhoeverElseIsThere() {
        Called x = Called.of(TWO + "tires last*10+beaten+gap;");
        due(x.tired(0, 0, 60, 0), 11);
        due(x.tired(1, 1, 60, 60), 12);
        x.give(0, 0);
        due(x.tired(0, 0, 60, 0), 11);
        due(x.tired(1, 0, 60, 6), 11);
    }

    static void promise15LongerThanHisBreathOrThanHeWould() {
        Called x = Called.of(TWO + "tires held+breath;");
        x.give(0, 0);
        x.believe(0, 0, 60);
        due(x.tired(0, 0, 40, 40), 45);
    }

    static void promise15NoneSuch() {
        Called x = Called.of(TWO);
        due(x.tired(1, 1, 6, 6), 6);
        Bounds.dueToEach(NONE, h -> x.tired(h, 0, 5, 5), -1, 2, LEAST, MOST);
        Bounds.dueToEach(NONE, t -> x.tired(0, t, 5, 5), -1, 2, LEAST, MOST);
        due(Called.of(T).tired(0, 0, 5, 5), NONE);
        due(Called.of(H).tired(0, 0, 5, 5), NONE);
    }

    static void promise15JustThoseThatThereAre() {
        Bounds.dueToNoneSuch(NONE, (x, h, t) -> x.tired(h, t, 5, 5));
    }

    static void promise15OfThisHolderInThisTunnel() {
        Called x = Called.of(Bounds.UNLIKE + "tires breath+gap-held;");
        Bounds.dueOfEach(x, (y, h, t) -> y.tired(h, t, 5, 5), 2, 11, 41, 26, 35, 60);
    }
}
