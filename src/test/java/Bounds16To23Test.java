/** Boundary cases of what is best: ALONE, ON, AT REST, HIDDEN, PACE, WHOM, and of FACES. */
public final class Bounds16To23Test {
    private static final int NONE = Bounds.NONE;
    private static final int NOTHING = Bounds.NOTHING;
    private static final int LEAST = Bounds.LEAST;
    private static final int MOST = Bounds.MOST;
    private static final String T = "tunnel t gap 1 at 5 weighs 1;";
    private static final String H = "holder h breath 5 laughs 0;";
    private static final String TWO = "tunnel ta gap 1 at 5 weighs 1;tunnel tb gap 2 at 6 weighs 2;"
        + "holder ha breath 5 laughs 1;holder hb breath 6 laughs 2;";
    /** Of three weights one and two. */
    private static final String THIRDS = "tunnel t gap 1 at 5 weighs 1 at 6 weighs 2;";

    public static void main(String[] args) {
        Bounds.run(Bounds16To23Test.class, 16, 23);
    }

    private static void due(long got, long want) {
        Bounds.due(got, want);
    }

    private static void due(boolean got, boolean want) {
        Bounds.due(got, want);
    }

    private static void alone(Called x, int holder, int second, int mean) {
        due(x.alone(holder, 0, 0), second);
        due(x.alone(holder, 0, 1), mean);
    }

    // ---- promise 16

    static void promise16FromZeroToHisBreath() {
        for (int breath : new int[] {1, 2, 59, 60}) {
            Called x = Called.of("tunnel t gap 1 at 60 weighs 1;holder h breath " + breath + " laughs 0;worth held;");
            alone(x, 0, breath, 1000 * breath);
        }
        alone(Called.of("tunnel t gap 1 at 60 weighs 1;holder h breath 60 laughs 0;worth 0-held;"), 0, 0, 0);
    }

    static void promise16NoBreathLeft() {
        Called x = Called.of(T + H + "worth held*10+made+last*2-3;");
        due(x.goOnWith(Called.closed(0, 0, 60, 1, 134, 160, 0)), true);
        alone(x, 0, 0, -1000);
    }

    static void promise16OfLikeOnesTheLeast() {
        alone(Called.of(T + "holder h breath 9 laughs 0;worth 7;"), 0, 0, 7000);
        alone(Called.of(T + "holder h breath 9 laughs 0;worth made;"), 0, 5, 1000);
        alone(Called.of(T + "holder h breath 9 laughs 0;worth if(held>1,4,3);"), 0, 2, 4000);
        alone(Called.of(T + "holder h breath 9 laughs 0;worth if(held=4,9,if(held=2,9,0));"), 0, 2, 9000);
        alone(Called.of(T + "holder h breath 9 laughs 0;"), 0, 0, 0);
    }

    /** By 1 and by 6 he gets as much on the mean, though not in each length. */
    static void promise16OfLikeMeansTheLeast() {
        alone(Called.of("tunnel t gap 1 at 2 weighs 1 at 6 weighs 1;holder h breath 9 laughs 0;"
            + "worth if(long=2,if(held=1,4,0),if(held=6,4,0));"), 0, 1, 2000);
    }

    static void promise16BehindTheEndHeHoldsItsLength() {
        Called x = Called.of("tunnel t gap 1 at 3 weighs 1 at 9 weighs 1;holder h breath 20 laughs 0;worth held;");
        alone(x, 0, 9, 6000);
        x = Called.of("tunnel t gap 1 at 3 weighs 1 at 9 weighs 1;holder h breath 9 laughs 0;worth made*10;");
        alone(x, 0, 9, 10000);
        x = Called.of("tunnel t gap 1 at 3 weighs 1 at 9 weighs 1;holder h breath 8 laughs 0;worth made*10;");
        alone(x, 0, 3, 5000);
    }

    static void promise16TheFloor() {
        alone(Called.of(THIRDS + H + "worth if(long=5,1,0);"), 0, 0, 333);
        alone(Called.of(THIRDS + H + "worth if(long=6,1,0);"), 0, 0, 666);
        alone(Called.of(THIRDS + H + "worth if(long=5,0-1,0);"), 0, 0, -334);
        alone(Called.of(THIRDS + H + "worth if(long=6,0-1,0);"), 0, 0, -667);
        alone(Called.of(THIRDS + H + "worth 0-1;"), 0, 0, -1000);
        alone(Called.of(THIRDS + H + "worth if(long=5,0-998,0-999);"), 0, 0, -998667);
    }

    static void promise16TheMostAndTheLeastWorth() {
        alone(Called.of(T + H + "worth 9999;"), 0, 0, 999000);
        alone(Called.of(T + H + "worth 0-9999;"), 0, 0, -999000);
        // Above 999 more is no more.
        alone(Called.of(T + H + "worth held*500;"), 0, 2, 999000);
    }

    /** Whoever laughs, and however often: what is asked is told as if nobody did, and makes no DRAWS. */
    static void promise16WithoutLaughs() {
        String[] texts = new String[2];
        for (int i = 0; i < 2; i++) {
            texts[i] = "tunnel ta gap 1 at 5 weighs 1 at 9 weighs 2;tunnel tb gap 7 at 12 weighs 1;"
                + "holder ha breath 6 laughs #;holder hb breath 9 laughs #;holder hc breath 9 laughs #;"
                + "worth held*3+made*20+last*5+beaten-long;tires breath-held/2;seen 20;fine 9;";
            texts[i] = texts[i].replace("#", i == 0 ? "0" : "50");
        }
        Called x = Called.of(texts[0]);
        Called y = Called.of(texts[1]);
        for (int h = 0; h < 3; h++) {
            for (int t = 0; t < 2; t++) {
                due(y.holds(h, t, 9), x.holds(h, t, 9));
                due(y.made(h, t), x.made(h, t));
                due(y.worth(h, t, 9), x.worth(h, t, 9));
                due(y.tired(h, t, 9, 6), x.tired(h, t, 9, 6));
                due(y.rest(t, h), x.rest(t, h));
                for (int what = 0; what < 2; what++) {
                    due(y.alone(h, t, what), x.alone(h, t, what));
                    due(y.on(h, 2 + t, what), x.on(h, 2 + t, what));
                    due(y.hidden(h, t, what), x.hidden(h, t, what));
                    due(y.pace(t, 2 * h + 1, what), x.pace(t, 2 * h + 1, what));
                    due(y.whom(h, t, what), x.whom(h, t, what));
                }
            }
        }
        due(y.has(7), 1);
    }

    static void promise16IfNobodyElseWereThere() {
        Called x = Called.of(T + "holder a breath 3 laughs 0;holder b breath 9 laughs 0;holder c breath 1 laughs 0;"
            + "worth last*100+beaten*10+held;");
        alone(x, 0, 3, 103000);
        alone(x, 2, 1, 101000);
    }

    static void promise16WhatHeBelievesAndGivesCountsForNothing() {
        Called x = Called.of(T + H + "worth held;");
        x.believe(0, 0, 60);
        alone(x, 0, 5, 5000);
        x.give(0, 0);
        alone(x, 0, 5, 5000);
    }

    static void promise16AskedOfOneAndThenOfAnother() {
        Called x = Called.of("tunnel ta gap 1 at 60 weighs 1;tunnel tb gap 2 at 59 weighs 1;tunnel tc gap 3 at 60 weighs 1;"
            + "holder ha breath 60 laughs 0;holder hb breath 60 laughs 0;holder hc breath 1 laughs 0;worth held*gap;"
            + "tires if(breath=1,0,breath);");
        for (int i = 0; i < 2; i++) {
            due(x.alone(0, 0, 1), 60000);
            due(x.alone(0, 1, 1), 118000);
            due(x.alone(1, 2, 0), 60);
            due(x.alone(1, 2, 1), 180000);
            due(x.alone(2, 2, 1), i == 0 ? 3000 : 0);
            due(x.alone(2, 0, 1), i == 0 ? 1000 : 0);
            due(x.alone(1, 0, 1), 60000);
            x.drive(3);
        }
    }

    /** A row of four, and the one beside it. */
    private static final String FOUR = "tunnel ta gap 1 at 1 weighs 1 at 2 weighs 2 at 3 weighs 3 at 4 weighs 4;"
        + "tunnel tb gap 1 at 60 weighs 9 at 59 weighs 9 at 58 weighs 9 at 57 weighs 9;"
        + "holder ha breath 60 laughs 0;holder hb breath 2 laughs 0;worth if(long>4,0-held*9,held);";

    static void promise16ARowOfFourLengths() {
        alone(Called.of(FOUR), 0, 4, 3000);
        due(Called.of(FOUR).alone(0, 1, 0), 0);
    }

    static void promise16NoneSuchOrOthers() {
        Called x = Called.of(TWO + "worth 0-1;");
        due(x.alone(1, 1, 1), -1000);
        Bounds.dueToEach(NOTHING, h -> x.alone(h, 0, 0), -1, 2, LEAST, MOST);
        Bounds.dueToEach(NOTHING, t -> x.alone(0, t, 0), -1, 2, LEAST, MOST);
        Bounds.dueToEach(NOTHING, what -> x.alone(0, 0, what), -1, 2, LEAST, MOST);
        due(Called.of(T).alone(0, 0, 0), NOTHING);
        due(Called.of(H).alone(0, 0, 0), NOTHING);
    }

    static void promise16JustThoseThatThereAre() {
        Bounds.dueToNoneSuch(NOTHING, (x, h, t) -> x.alone(h, t, 1));
    }

    static void promise16OfThisHolderInThisTunnel() {
        Called x = Called.of(Bounds.UNLIKE + "worth held*10+gap+last*3+beaten;");
        Bounds.dueOfEach(x, (y, h, t) -> y.alone(h, t, 0), 5, 6, 6, 5, 8, 20);
        Bounds.dueOfEach(x, (y, h, t) -> y.alone(h, t, 1), 54000, 50500, 103000, 54000, 55500, 243000);
    }

    // ---- promise 17

    private static void on(Called x, int n, int second, int mean) {
        due(x.on(0, n, 0), second);
        due(x.on(0, n, 1), mean);
    }

    static void promise17OneToFourTunnels() {
        Called x = Called.of(T + H + "worth held;");
        for (int n = 1; n <= 4; n++) {
            on(x, n, 5, 5000 * n);
        }
        for (int what = 0; what < 2; what++) {
            int asked = what;
            Bounds.dueToEach(NOTHING, n -> x.on(0, n, asked), 0, 5, -1, LEAST, MOST);
        }
    }

    static void promise17NoneSuchOrOthers() {
        Called x = Called.of(TWO + "worth 0-1;");
        due(x.on(1, 1, 1), -1000);
        Bounds.dueToEach(NOTHING, h -> x.on(h, 1, 0), -1, 2, LEAST, MOST);
        Bounds.dueToEach(NOTHING, what -> x.on(0, 1, what), -1, 2, LEAST, MOST);
        due(Called.of(H).on(0, 1, 0), NOTHING);
        due(Called.of(T).on(0, 1, 0), NOTHING);
    }

    /** The tunnel is told by its gap. */
    static void promise17FromTheNextOneOnAndAround() {
        Called x = Called.of("tunnel a gap 1 at 5 weighs 1;tunnel b gap 10 at 5 weighs 1;tunnel c gap 99 at 5 weighs 1;" + H
            + "worth gap;");
        int[] gaps = {1, 10, 99};
        for (int next = 0; next < 4; next++) {
            int all = 0;
            for (int n = 1; n <= 4; n++) {
                all += gaps[(next + n - 1) % 3];
                on(x, n, 0, 1000 * all);
            }
            x.drive(1);
        }
    }

    static void promise17OverOneAsAlone() {
        Called x = Called.of(TWO + "worth held*held-beaten-made*3;");
        for (int t = 0; t < 2; t++) {
            for (int h = 0; h < 2; h++) {
                due(x.on(h, 1, 0), x.alone(h, t, 0));
                due(x.on(h, 1, 1), x.alone(h, t, 1));
            }
            x.drive(1);
        }
    }

    static void promise17OfLikeOnesTheLeastSecondInTheFirst() {
        Called x = Called.of("tunnel t gap 1 at 10 weighs 1;holder h breath 10 laughs 0;worth held;tires breath-held;");
        on(x, 1, 10, 10000);
        for (int n = 2; n <= 4; n++) {
            on(x, n, 0, 10000);
        }
        x = Called.of("tunnel t gap 1 at 6 weighs 1;holder h breath 10 laughs 0;worth held;tires breath-held;");
        on(x, 1, 6, 6000);
        on(x, 2, 4, 10000);
        on(x, 3, 0, 10000);
    }

    static void promise17TiredByEach() {
        Called x = Called.of("tunnel t gap 1 at 9 weighs 1;holder h breath 4 laughs 0;worth held;tires breath+held;");
        // 4, 8, then 9 of 16 and 9 of 25.
        on(x, 1, 4, 4000);
        on(x, 2, 4, 12000);
        on(x, 3, 4, 21000);
        on(x, 4, 4, 30000);
        x = Called.of("tunnel t gap 1 at 9 weighs 1;holder h breath 4 laughs 0;worth held;tires 0-1;");
        on(x, 4, 4, 4000);
        x = Called.of("tunnel t gap 1 at 60 weighs 1;holder h breath 4 laughs 0;worth held;tires 61;");
        on(x, 4, 4, 184000);
    }

    /** Behind 1 he has 3 left and had best hold 1, behind 2 he has 2 left and had best hold 2. */
    static void promise17TheSecondsByTheBreathHeHasThen() {
        Called x = Called.of("tunnel a gap 1 at 1 weighs 1 at 2 weighs 1;tunnel b gap 2 at 5 weighs 1;"
            + "holder h breath 4 laughs 0;worth if(gap=1,held*5,if(held=4-breath,10,0));tires breath-held;");
        on(x, 2, 2, 17500);
    }

    static void promise17AskedOfOneAndThenOfAnother() {
        Called x = Called.of(T + "holder a breath 60 laughs 0;holder b breath 1 laughs 0;worth held;tires breath-1;");
        for (int i = 0; i < 2; i++) {
            due(x.on(0, 4, 1), 20000);
            due(x.on(1, 4, 1), 1000);
            due(x.on(0, 3, 1), 15000);
            due(x.on(0, 4, 0), 5);
            due(x.on(1, 4, 0), 1);
        }
        x.drive(1);
        due(x.on(1, 4, 1), 0);
        due(x.on(0, 4, 1), 20000);
        x.undo();
        due(x.on(1, 4, 1), 1000);
    }

    static void promise17RowsOfFourLengths() {
        Called x = Called.of(FOUR);
        on(x, 1, 4, 3000);
        on(x, 2, 4, 3000);
        on(x, 3, 4, 6000);
        on(x, 4, 4, 6000);
    }

    /** What one TUNNEL has counts for nothing in another: lengths, weights, what is best behind the same breath. */
    static void promise17TunnelsUnlikeEachOther() {
        String text = "tunnel ta gap 1 at 4 weighs 1;tunnel tb gap 2 at 5 weighs 1 at 6 weighs 3;"
            + "tunnel tc gap 3 at 7 weighs 2 at 8 weighs 2 at 9 weighs 4;holder h breath 20 laughs 0;worth long*gap;";
        // 4; 2 * 5.75; 3 * 8.25.
        int[] means = {4000, 11500, 24750};
        for (int next = 0; next < 3; next++) {
            Called x = Called.of(text);
            due(x.goOnWith(Called.closed(next, 20, 60, 1, 134, 160, 0, 0, 0)), true);
            int all = 0;
            for (int n = 1; n <= 4; n++) {
                all += means[(next + n - 1) % 3];
                on(x, n, 0, all);
            }
        }
        // Always with a breath of 4: held as long as he can in one, not at all in the other.
        Called x = Called.of("tunnel ta gap 1 at 9 weighs 1;tunnel tb gap 50 at 9 weighs 1;holder h breath 4 laughs 0;"
            + "worth if(gap=1,held,0-7-held);");
        on(x, 2, 4, 4000 - 7000);
        on(x, 3, 4, 2 * 4000 - 7000);
        on(x, 4, 4, 2 * 4000 - 2 * 7000);
        x.drive(1);
        on(x, 2, 0, 4000 - 7000);
        on(x, 3, 0, 4000 - 2 * 7000);
    }

    /** What he gets by all of 60 seconds in the first one stays, whatever is looked at behind it. */
    static void promise17SixtySecondsInTheFirst() {
        Called x = Called.of("tunnel t gap 1 at 60 weighs 1 at 59 weighs 1;holder h breath 60 laughs 0;worth made*10;"
            + "tires if(long=59,7,5);");
        for (int n = 1; n <= 4; n++) {
            on(x, n, 60, 10000);
        }
    }

    static void promise17TiredByItsLengthToo() {
        on(Called.of(T + "holder h breath 3 laughs 0;worth held;tires long;"), 2, 3, 8000);
        on(Called.of(T + "holder h breath 3 laughs 0;worth held;tires gap;"), 2, 3, 4000);
    }

    static void promise17NoBreathLeft() {
        Called x = Called.of(T + H + "worth held*10+breath-1;tires breath;");
        due(x.goOnWith(Called.closed(0, 0, 60, 1, 134, 160, 0)), true);
        on(x, 4, 0, -4000);
    }

    static void promise17TheFloorOfAllTogether() {
        String start = "tunnel a gap 1 at 5 weighs 2 at 6 weighs 1;tunnel b gap 1 at 5 weighs 2 at 6 weighs 1;" + H;
        Called x = Called.of(start + "worth if(long=5,1,0);");
        int[] above = {666, 1333, 2000, 2666};
        Called y = Called.of(start + "worth if(long=5,0-1,0);");
        int[] below = {-667, -1334, -2000, -2667};
        for (int n = 1; n <= 4; n++) {
            on(x, n, 0, above[n - 1]);
            on(y, n, 0, below[n - 1]);
        }
    }

    static void promise17TheMostAndTheLeast() {
        String start = "tunnel t gap 1 at 1 weighs 9 at 2 weighs 9 at 3 weighs 9 at 4 weighs 9;holder h breath 60 laughs 0;";
        on(Called.of(start + "worth 1000;tires 60;"), 4, 0, 3996000);
        on(Called.of(start + "worth 0-1000;tires 0;"), 4, 0, -3996000);
        on(Called.of(start + "worth 1000-held;"), 4, 0, 3996000);
    }

    static void promise17WhatHeBelievesAndGivesCountsForNothing() {
        Called x = Called.of(T + H + "holder b breath 60 laughs 0;worth held+last*100+beaten*7;");
        x.believe(0, 0, 60);
        x.give(0, 0);
        on(x, 4, 5, 420000);
    }

    static void promise17JustThoseThatThereAre() {
        Bounds.dueToNoneSuch(NOTHING, (x, h, t) -> t < 0 || t >= x.has(0) ? NOTHING : x.on(h, 1, 1));
    }

    // ---- promise 18

    private static void rest(Called x, int round, int... seconds) {
        due(x.rest(0, NONE), round);
        for (int h = 0; h < seconds.length; h++) {
            due(x.rest(0, h), seconds[h]);
        }
    }

    private static Called two(int breath, String worth) {
        return Called.of("tunnel t gap 1 at 60 weighs 1;holder a breath " + breath + " laughs 0;holder b breath " + breath
            + " laughs 0;worth " + worth + ";");
    }

    static void promise18NoneSuch() {
        Called x = Called.of(TWO);
        due(x.rest(1, 1), 6);
        Bounds.dueToEach(NONE, k -> x.rest(0, k), 2, -2, LEAST, MOST);
        Bounds.dueToEach(NONE, t -> x.rest(t, 0), -1, 2, LEAST, MOST);
        Bounds.dueToEach(NONE, t -> x.rest(t, NONE), -1, 2, LEAST, MOST);
        due(Called.of(H).rest(0, NONE), NONE);
        due(Called.of(H).rest(0, 0), NONE);
    }

    static void promise18NobodyToTakeAnother() {
        Called x = Called.of(T);
        due(x.rest(0, NONE), 1);
        due(x.rest(0, 0), NONE);
    }

    static void promise18AtFirstEachHisWholeBreath() {
        rest(two(9, "7"), 1, 9, 9);
        rest(two(60, "held"), 1, 60, 60);
        Called x = Called.of(TWO + "worth 0;tires breath-2;");
        rest(x, 1, 5, 6);
        x.drive(1);
        rest(x, 1, 3, 4);
        x.drive(30);
        rest(x, 1, 0, 0);
    }

    static void promise18TheirOwnIfAmongThem() {
        rest(two(9, "if(held>5,5,0)"), 1, 9, 9);
        rest(two(9, "if(held>8,5,0)"), 1, 9, 9);
    }

    static void promise18ElseTheLeast() {
        rest(two(9, "if(held<3,5,0)"), 2, 0, 0);
        rest(two(9, "if(held>3 and held<9,5,0)"), 2, 4, 4);
        rest(two(9, "if(held=7 or held=5,5,0)"), 2, 5, 5);
    }

    /** Each holds one second less than the other as he is then, and 0 once nobody can be longer. */
    private static Called less(int breath) {
        return two(breath, "if(last=0,100+held,0-held)");
    }

    static void promise18ByNumbersTheOthersAsTheyAreThen() {
        // 1: b has 1 yet, so a takes 0; b takes 0. 2: nobody.
        rest(less(1), 2, 0, 0);
        // 1: a takes 1, b takes 0. 2: a takes 0. 3: nobody.
        rest(less(2), 3, 0, 0);
        // 1: a takes 2, b takes 1. 2: a takes 0, b takes 0. 3: nobody.
        rest(less(3), 3, 0, 0);
    }

    static void promise18TwelveRoundsAndNotEnough() {
        rest(less(18), 11, 0, 0);
        rest(less(19), 11, 0, 0);
        rest(less(20), 12, 0, 0);
        rest(less(21), 12, 0, 0);
        // In the 12th the last ones take another, so that nobody would in a 13th.
        rest(less(22), 13, 0, 0);
        rest(less(23), 13, 0, 0);
        // Stopped on their way.
        rest(less(24), 13, 1, 0);
        rest(less(25), 13, 2, 1);
        rest(less(60), 13, 37, 36);
    }

    static void promise18WhatTheyBelieveAndGiveIsNothing() {
        Called x = less(3);
        x.believe(0, 0, 60);
        x.give(1, 0);
        rest(x, 3, 0, 0);
        x = two(9, "7");
        x.believe(0, 0, 60);
        x.give(1, 0);
        rest(x, 1, 9, 9);
    }

    static void promise18OnTheMean() {
        String holder = "holder h breath 9 laughs 0;";
        // Of 3 seconds once made is worth 6 of one weight, of 8 it is 4 of two.
        rest(Called.of("tunnel t gap 1 at 3 weighs 1 at 8 weighs 2;" + holder + "worth if(held=3,6,if(held=8,4,0));"), 2, 3);
        rest(Called.of("tunnel t gap 1 at 3 weighs 2 at 8 weighs 1;" + holder + "worth if(held=2,5,if(held=8,9,0));"), 2, 2);
        // Alike on the mean: 9 stays.
        rest(Called.of("tunnel t gap 1 at 3 weighs 1 at 9 weighs 1;" + holder
            + "worth if(long=3,if(held=1,4,0),if(held=9,4,0));"), 1, 9);
    }

    /** Each length by its own weight, wherever it is told: 1 second of 2 is worth 5, 6 of 6 are worth 4. */
    static void promise18ByAllWeights() {
        String worth = "holder h breath 9 laughs 0;worth if(long=2,if(held=1,5,0),if(held=6,4,0));";
        rest(Called.of("tunnel t gap 1 at 2 weighs 1 at 6 weighs 2;" + worth), 1, 9);
        rest(Called.of("tunnel t gap 1 at 2 weighs 2 at 6 weighs 1;" + worth), 2, 1);
        rest(Called.of("tunnel t gap 1 at 6 weighs 1 at 2 weighs 2;" + worth), 2, 1);
        rest(Called.of("tunnel t gap 1 at 6 weighs 2 at 2 weighs 1;" + worth), 1, 9);
    }

    /** Whoever would hold longer than the TUNNEL is holds its length as the others do. */
    static void promise18NobodyHoldsLongerThanItsLength() {
        // All is alike to a; b is last with 5 of 5, and would not be, were a's 60 or 9 longer.
        Called x = Called.of(T + "holder a breath 60 laughs 0;holder b breath 9 laughs 0;worth if(breath=60,7,last*10-held);");
        rest(x, 1, 60, 9);
        x = Called.of(T + "holder a breath 60 laughs 0;holder b breath 4 laughs 0;worth if(breath=60,7,last*10-held);");
        rest(x, 2, 60, 0);
        // 1: a's 60 stay, b takes 0. 2: a takes 1, b 2. 3: a takes 3, b 4. 4: a takes 5, b 0 ..
        x = Called.of(T + "holder a breath 60 laughs 0;holder b breath 4 laughs 0;worth beaten*100+last*10-held;");
        rest(x, 13, 3, 4);
    }

    static void promise18SixHolders() {
        StringBuilder text = new StringBuilder(T);
        for (int h = 0; h < 6; h++) {
            text.append("holder h").append((char) ('a' + h)).append(" breath ").append(h + 1).append(" laughs 0;");
        }
        rest(Called.of(text + "worth 0-held;"), 2, 0, 0, 0, 0, 0, 0);
        // One second more than the one ahead of him is enough; the last one's 6 is as good as 5 in a tunnel of 5.
        rest(Called.of(text + "worth beaten*10-held;"), 2, 0, 1, 2, 3, 4, 6);
    }

    /** What the one ahead of him gets by all 60 seconds is not his. */
    static void promise18SixtySecondsOfEach() {
        rest(two(60, "if(held=59,6,if(held=60,5,0))"), 2, 59, 59);
        rest(two(60, "if(held=59,5,if(held=60,6,0))"), 1, 60, 60);
    }

    static void promise18WhateverIsKept() {
        Called x = Called.of("tunnel t gap 1 at 60 weighs 1;" + H + "holder i breath 60 laughs 0;worth held;");
        for (int i = 0; i < 4; i++) {
            rest(x, 1, 5, 60);
            due(x.drive(13), 13 * 65);
        }
    }

    static void promise18AskedAgainBehindEachChange() {
        Called x = Called.of(TWO + "worth held;tires breath-2;");
        rest(x, 1, 5, 6);
        x.drive(1);
        rest(x, 1, 3, 4);
        due(x.rest(1, 0), 3);
        x.pause();
        rest(x, 1, 5, 6);
        x.undo();
        rest(x, 1, 3, 4);
        due(x.goOnWith(Called.closed(0, 2, 60, 1, 134, 160, 0, 0, 1, 60, 1, 134, 160, 0, 0)), true);
        rest(x, 1, 2, 1);
        due(x.read(TWO + "worth 0-held;"), 5);
        rest(x, 2, 0, 0);
    }

    static void promise18ARowOfFourLengths() {
        rest(Called.of(FOUR), 1, 60, 2);
        due(Called.of(FOUR).rest(1, 0), 0);
    }

    static void promise18JustThoseThatThereAre() {
        Bounds.dueToNoneSuch(NONE, (x, h, t) -> h < 0 ? NONE : x.rest(t, h));
    }

    static void promise18OfThisHolderInThisTunnel() {
        Called x = Called.of(Bounds.UNLIKE + "worth if(gap=10,0-held,held);");
        Bounds.dueOfEach(x, (y, h, t) -> y.rest(t, h), 6, 0, 6, 30, 0, 30);
        Bounds.dueOfEach(x, (y, h, t) -> y.rest(t, NONE), 1, 2, 1, 1, 2, 1);
    }

    // ---- promise 19

    private static void hidden(String text, int pays, int mean) {
        Called x = Called.of(text);
        due(x.hidden(0, 0, 0), pays);
        due(x.hidden(0, 0, 1), mean);
    }

    static void promise19NeverSeenAndAlwaysSeen() {
        String start = T + "holder h breath 4 laughs 0;worth made*9;";
        hidden(start, 1, 9000);
        hidden(start + "fine 999;", 1, 9000);
        hidden(start + "seen 0;fine 999;", 1, 9000);
        hidden(start + "seen 100;", 0, 0);
        hidden(start + "seen 100;fine 1;", 0, -1000);
        hidden(start + "seen 100;fine 999;", 0, -999000);
        hidden(start + "seen 99;fine 0;", 1, 90);
        hidden(start + "seen 1;fine 0;", 1, 8910);
        hidden(start + "seen 1;fine 999;", 0, 8910 - 9990);
    }

    static void promise19ItPaysIfItIsMore() {
        String start = T + "holder h breath 4 laughs 0;";
        hidden(start + "worth 3;", 0, 3000);
        hidden(start + "worth 3+made;", 1, 4000);
        hidden(start + "worth 3-made;", 0, 2000);
        hidden(start + "worth 1+made;seen 50;", 0, 1000);
        hidden(start + "worth 1+made;seen 49;", 1, 1020);
        hidden(start + "worth 1+made;seen 51;", 0, 980);
        hidden(start, 0, 0);
        hidden(start + "worth 0-9+made;seen 100;fine 8;", 1, -8000);
        hidden(start + "worth 0-9+made;seen 100;fine 9;", 0, -9000);
    }

    /** 9801 of 3500 against 98 of 35: alike in thousandths. */
    static void promise19MoreByLessThanAThousandth() {
        String text = "tunnel t gap 1 at 50 weighs 9 at 51 weighs 9 at 52 weighs 9 at 53 weighs 8;holder h breath 1 laughs 0;"
            + "worth if(made=1,if(long=50,11,0),if(long=50,10,if(long=53,1,0)));seen 1;";
        due(Called.of(text).alone(0, 0, 1), 2800);
        hidden(text, 1, 2800);
    }

    static void promise19TheFloor() {
        String start = "tunnel t gap 1 at 50 weighs 1 at 51 weighs 6;holder h breath 1 laughs 0;worth ";
        hidden(start + "if(long=50,1,0);", 0, 142);
        hidden(start + "if(long=50,0-1,0);", 0, -143);
        hidden(start + "if(long=51,0-1,0);", 0, -858);
        hidden(start + "0-1;", 0, -1000);
    }

    static void promise19AllTheWayWhateverHisBreath() {
        Called x = Called.of("tunnel t gap 1 at 60 weighs 1;holder a breath 5 laughs 0;holder b breath 60 laughs 0;"
            + "worth breath*10+held+made+last*100+beaten*200;");
        due(x.hidden(0, 0, 1), 211000);
        x.give(0, 0);
        x.believe(0, 0, 60);
        due(x.hidden(0, 0, 1), 211000);
        due(x.goOnWith(Called.closed(0, 0, 60, 1, 134, 160, 0, 0, 60, 1, 134, 160, 0)), true);
        due(x.hidden(0, 0, 1), 161000);
        due(x.hidden(0, 0, 0), 1);
    }

    static void promise19TheMostAndTheLeastWorth() {
        hidden(T + H + "worth 9999;", 0, 999000);
        hidden(T + H + "worth 0-9999;", 0, -999000);
        hidden(T + H + "worth 0-9999;seen 50;fine 999;", 0, -999000);
    }

    static void promise19ARowOfFourLengths() {
        Called x = Called.of(FOUR);
        due(x.hidden(0, 0, 1), 3000);
        due(x.hidden(0, 0, 0), 0);
        due(x.hidden(1, 0, 1), 3000);
        due(x.hidden(1, 0, 0), 1);
        due(x.hidden(0, 1, 1), (-540 - 531 - 522 - 513) * 1000 / 4);
    }

    static void promise19NoneSuchOrOthers() {
        Called x = Called.of(TWO + "worth 0-1;");
        due(x.hidden(1, 1, 1), -1000);
        Bounds.dueToEach(NOTHING, h -> x.hidden(h, 0, 0), -1, 2, LEAST, MOST);
        Bounds.dueToEach(NOTHING, t -> x.hidden(0, t, 0), -1, 2, LEAST, MOST);
        Bounds.dueToEach(NOTHING, what -> x.hidden(0, 0, what), -1, 2, LEAST, MOST);
        due(Called.of(T).hidden(0, 0, 0), NOTHING);
        due(Called.of(H).hidden(0, 0, 0), NOTHING);
    }

    static void promise19JustThoseThatThereAre() {
        Bounds.dueToNoneSuch(NOTHING, (x, h, t) -> x.hidden(h, t, 1));
    }

    static void promise19OfThisHolderInThisTunnel() {
        Called x = Called.of(Bounds.UNLIKE + "worth held+gap+breath;");
        Bounds.dueOfEach(x, (y, h, t) -> y.hidden(h, t, 1), 12000, 20250, 66000, 36000, 44250, 90000);
        Bounds.dueOfEach(x, (y, h, t) -> y.hidden(h, t, 0), 0, 1, 1, 0, 0, 0);
    }

    static void promise19AgainstAloneInThisTunnel() {
        Called x = Called.of("tunnel ta gap 1 at 5 weighs 1;tunnel tb gap 50 at 9 weighs 1;holder ha breath 3 laughs 0;"
            + "holder hb breath 5 laughs 0;worth held+gap;");
        // 6 against 4, 59 against 53; 6 against 6, 59 against 55.
        int[] pays = {1, 1, 0, 1};
        for (int i = 0; i < 4; i++) {
            due(x.hidden(i / 2, i % 2, 0), pays[i]);
        }
        x.give(1, 3);
        due(x.hidden(1, 0, 0), 0);
        due(x.goOnWith(Called.closed(0, 3, 60, 1, 134, 160, 0, 0, 4, 60, 1, 134, 160, 0, 0)), true);
        due(x.hidden(1, 0, 0), 1);
    }

    // ---- promise 20

    /** For each second at which he gives up: the least pace by which he makes it. */
    static void promise20ThePartsOfLengths() {
        for (int length : new int[] {1, 2, 3, 4, 5, 6, 7, 8, 9, 11, 12, 57, 58, 59, 60}) {
            Called x = Called.of("tunnel t gap 1 at " + length + " weighs 1;holder h breath 60 laughs 0;");
            for (int gives = 0; gives <= 60; gives++) {
                int quick = 0;
                for (int p = 4; p >= 1; p--) {
                    if (Math.max(1, length / p) <= gives) {
                        quick = p;
                    }
                }
                x.give(0, gives);
                due(x.pace(0, 1, 0), quick == 0 ? 1 : quick);
                due(x.pace(0, 1, 1), quick == 0 ? 0 : 1000);
            }
        }
    }

    static void promise20OneAtLeast() {
        for (int length = 1; length <= 3; length++) {
            Called x = Called.of("tunnel t gap 1 at " + length + " weighs 1 at 40 weighs 1;holder h breath 10 laughs 0;");
            // 40 takes a pace of 4, by which the short one is none the less 1 long.
            due(x.pace(0, 1, 0), 4);
            due(x.pace(0, 1, 1), 1000);
        }
    }

    static void promise20OfLikeOnesTheLeast() {
        Called x = Called.of("tunnel t gap 1 at 9 weighs 1;holder a breath 9 laughs 0;holder b breath 4 laughs 0;");
        due(x.pace(0, 1, 0), 1);
        due(x.pace(0, 3, 0), 2);
        due(x.pace(0, 2, 0), 1);
        due(x.pace(0, 2, 1), 0);
        x = Called.of("tunnel t gap 1 at 20 weighs 1 at 10 weighs 1;holder a breath 10 laughs 0;holder b breath 5 laughs 0;");
        // Just a: 10 at 1, 20 at 2.
        due(x.pace(0, 1, 0), 1);
        due(x.pace(0, 1, 1), 500);
        due(x.pace(0, 3, 0), 4);
        due(x.pace(0, 3, 1), 1000);
    }

    static void promise20JustThese() {
        Called x = Called.of("tunnel t gap 1 at 8 weighs 1;holder a breath 8 laughs 0;holder b breath 4 laughs 0;"
            + "holder c breath 2 laughs 0;");
        // 8 at 1, 4 at 2, 2 at 3.
        int[] quick = {1, 1, 1, 2, 1, 1, 1, 3};
        int[] likely = {0, 1000, 0, 1000, 0, 0, 0, 1000};
        for (int bits = 1; bits < 8; bits++) {
            due(x.pace(0, bits, 0), quick[bits]);
            due(x.pace(0, bits, 1), likely[bits]);
        }
    }

    static void promise20Bits() {
        StringBuilder text = new StringBuilder(T);
        for (int n = 1; n <= 6; n++) {
            text.append("holder h").append((char) ('a' + n)).append(" breath 9 laughs 0;");
            Called x = Called.of(text.toString());
            int all = (1 << n) - 1;
            due(x.pace(0, all, 0), 1);
            due(x.pace(0, all, 1), 1000);
            Bounds.dueToEach(NONE, bits -> x.pace(0, bits, 0), all + 1, -1, LEAST, MOST);
            Bounds.dueToEach(NONE, bits -> x.pace(0, bits, 1), all + 1, -1, LEAST, MOST);
        }
        due(Called.of(T).pace(0, 1, 0), NONE);
    }

    static void promise20TheFloor() {
        Called x = Called.of("tunnel t gap 1 at 50 weighs 1 at 51 weighs 1 at 52 weighs 1;holder h breath 50 laughs 0;");
        x.give(0, 12);
        due(x.pace(0, 1, 0), 4);
        due(x.pace(0, 1, 1), 666);
        x.give(0, 13);
        due(x.pace(0, 1, 1), 1000);
    }

    static void promise20ARowOfFourLengths() {
        Called x = Called.of(FOUR);
        due(x.pace(0, 1, 0), 1);
        due(x.pace(0, 1, 1), 700);
        due(x.pace(0, 3, 0), 2);
        due(x.pace(0, 3, 1), 1000);
        due(x.pace(1, 1, 1), 1000);
        due(x.pace(1, 3, 1), 0);
    }

    static void promise20AsAllIsNow() {
        Called x = Called.of("tunnel t gap 1 at 12 weighs 1;holder a breath 12 laughs 0;holder b breath 6 laughs 0;tires breath/2;");
        due(x.pace(0, 3, 0), 2);
        x.drive(1);
        due(x.pace(0, 3, 0), 4);
        due(x.pace(0, 1, 0), 2);
        x.drive(1);
        due(x.pace(0, 3, 1), 0);
        due(x.pace(0, 1, 0), 4);
        x.pause();
        due(x.pace(0, 1, 0), 1);
        x.believe(0, 0, 13);
        due(x.pace(0, 2, 0), 2);
        x.give(1, 3);
        due(x.pace(0, 2, 0), 4);
    }

    static void promise20NoneSuchOrOthers() {
        Called x = Called.of(TWO);
        due(x.pace(1, 3, 1), 1000);
        Bounds.dueToEach(NONE, t -> x.pace(t, 1, 0), -1, 2, LEAST, MOST);
        Bounds.dueToEach(NONE, what -> x.pace(0, 1, what), -1, 2, LEAST, MOST);
        due(Called.of(H).pace(0, 1, 0), NONE);
    }

    static void promise20JustThoseThatThereAre() {
        Bounds.dueToNoneSuch(NONE, (x, h, t) -> h < 0 ? NONE : x.pace(t, 1 << h, 0));
    }

    // ---- promise 21

    private static void whom(Called x, int holder, int who, int mean) {
        due(x.whom(holder, 0, 0), who);
        due(x.whom(holder, 0, 1), mean);
    }

    static void promise21NobodyElseThere() {
        whom(Called.of(T + H + "worth held;"), 0, NONE, 5000);
    }

    static void promise21OfLikeOnesNobody() {
        Called x = Called.of(T + "holder a breath 5 laughs 0;holder b breath 5 laughs 0;worth 7-beaten;");
        whom(x, 0, NONE, 7000);
        whom(x, 1, NONE, 7000);
        x = Called.of(T + "holder a breath 5 laughs 0;holder b breath 4 laughs 0;worth beaten;");
        // b holds less as it is.
        whom(x, 0, NONE, 1000);
    }

    static void promise21ThenTheFirst() {
        Called x = Called.of(T + "holder a breath 3 laughs 0;holder b breath 3 laughs 0;holder c breath 3 laughs 0;"
            + "holder d breath 3 laughs 0;worth beaten;");
        whom(x, 0, 1, 1000);
        whom(x, 1, 0, 1000);
        whom(x, 2, 0, 1000);
        whom(x, 3, 0, 1000);
        x.give(0, 0);
        whom(x, 1, 2, 2000);
        whom(x, 3, 1, 2000);
        whom(x, 0, NONE, 0);
    }

    static void promise21TheBestOne() {
        Called x = Called.of(T + "holder a breath 3 laughs 0;holder b breath 2 laughs 0;holder c breath 5 laughs 0;"
            + "worth last*50+beaten*10;");
        whom(x, 0, 2, 70000);
        whom(x, 1, 0, 10000);
        whom(x, 2, NONE, 70000);
    }

    static void promise21WhoHoldsNothingCannotHoldLess() {
        Called x = Called.of(T + "holder a breath 3 laughs 0;holder b breath 3 laughs 0;worth beaten;");
        x.give(1, 0);
        whom(x, 0, NONE, 1000);
        x.give(0, 0);
        whom(x, 0, NONE, 0);
        x.give(1, 60);
        x.believe(1, 0, 60);
        whom(x, 0, NONE, 0);
        x.give(0, 60);
        whom(x, 0, NONE, 1000);
        x.believe(1, 0, 0);
        whom(x, 0, 1, 1000);
    }

    static void promise21TheFloor() {
        String holders = "holder a breath 9 laughs 0;holder b breath 9 laughs 0;";
        whom(Called.of(THIRDS + holders + "worth if(long=5,beaten,0);"), 0, 1, 333);
        whom(Called.of(THIRDS + holders + "worth if(long=6,beaten,0);"), 0, 1, 666);
        whom(Called.of(THIRDS + holders + "worth if(long=5,beaten-2,0);"), 0, 1, -334);
        whom(Called.of(THIRDS + holders + "worth if(long=6,beaten-2,0);"), 0, 1, -667);
        whom(Called.of(THIRDS + holders + "worth 0-1;"), 0, NONE, -1000);
        whom(Called.of(THIRDS + holders + "worth 0-9999;"), 0, NONE, -999000);
        whom(Called.of(THIRDS + holders + "worth 9999;"), 0, NONE, 999000);
    }

    static void promise21HeHoldsNothingThen() {
        Called x = Called.of(T + "holder a breath 1 laughs 0;holder b breath 3 laughs 0;worth last*10+beaten;");
        whom(x, 0, 1, 11000);
        x.give(0, 0);
        whom(x, 0, 1, 10000);
    }

    static void promise21ARowOfFourLengths() {
        Called x = Called.of(FOUR);
        whom(x, 0, NONE, 3000);
        due(x.whom(1, 1, 1), -18000);
    }

    static void promise21AsAllIsNow() {
        Called x = Called.of(T + "holder a breath 4 laughs 0;holder b breath 5 laughs 0;holder c breath 3 laughs 0;"
            + "worth last*10+beaten;tires if(breath=5,1,breath);");
        whom(x, 0, 1, 12000);
        x.drive(1);
        // b has a breath of 1 left, so that nobody is longer than a; whoever laughs is beaten none the less.
        whom(x, 0, NONE, 12000);
        whom(x, 2, 0, 12000);
        x.pause();
        whom(x, 0, 1, 12000);
        x.give(1, 2);
        whom(x, 0, NONE, 12000);
        x.undo();
        x.believe(1, 0, 6);
        whom(x, 0, NONE, 12000);
    }

    static void promise21NoneSuchOrOthers() {
        Called x = Called.of(TWO + "worth 0-1;");
        due(x.whom(1, 1, 1), -1000);
        due(x.whom(1, 1, 0), NONE);
        Bounds.dueToEach(NOTHING, h -> x.whom(h, 0, 0), -1, 2, LEAST, MOST);
        Bounds.dueToEach(NOTHING, t -> x.whom(0, t, 0), -1, 2, LEAST, MOST);
        Bounds.dueToEach(NOTHING, what -> x.whom(0, 0, what), -1, 2, LEAST, MOST);
        due(Called.of(T).whom(0, 0, 0), NOTHING);
        due(Called.of(H).whom(0, 0, 0), NOTHING);
    }

    static void promise21JustThoseThatThereAre() {
        Bounds.dueToNoneSuch(NOTHING, (x, h, t) -> x.whom(h, t, 1));
    }

    static void promise21OfThisHolderInThisTunnel() {
        Called x = Called.of(Bounds.UNLIKE + "worth held*10+gap+last*3+beaten;");
        Bounds.dueOfEach(x, (y, h, t) -> y.whom(h, t, 0), 1, 1, NONE, NONE, 0, 0);
        Bounds.dueOfEach(x, (y, h, t) -> y.whom(h, t, 1), 4000, 51500, 104000, 55000, 56500, 43000);
    }

    // ---- promise 22

    private static int[] rows(int n, int holder, int seconds) {
        int[] bytes = new int[2 * n];
        for (int i = 0; i < bytes.length; i++) {
            bytes[i] = i % 2 == 0 ? holder : seconds;
        }
        return bytes;
    }

    private static int faces(Called x, int tunnel, int... bytes) {
        x.put(bytes);
        return x.faces(tunnel);
    }

    static void promise22OneToTwelveRows() {
        Called x = Called.of(TWO);
        for (int n = 1; n <= 12; n++) {
            due(faces(x, 0, rows(n, 0, 5)), n);
            due(x.fit(0), 1);
            due(x.end(1), false);
        }
        due(x.status(4), 0);
        due(faces(x, 0), NONE);
        due(faces(x, 0, rows(13, 0, 5)), NONE);
        due(faces(x, 0, rows(60, 0, 5)), NONE);
        due(x.status(4), 3);
        due(x.fit(0), 1);
    }

    static void promise22EachRowCounts() {
        for (int n = 1; n <= 12; n++) {
            Called x = Called.of(TWO);
            int[] bytes = rows(n, 0, 5);
            bytes[2 * n - 1] = 4;
            due(faces(x, 0, bytes), n);
            due(x.fit(0), 0);
            bytes[2 * n - 1] = 61;
            due(faces(x, 0, bytes), NONE);
            bytes[2 * n - 1] = 5;
            bytes[2 * n - 2] = 2;
            due(faces(x, 0, bytes), NONE);
            bytes[2 * n - 2] = 1;
            due(faces(x, 0, bytes), n);
            due(x.fit(0), 1);
        }
    }

    static void promise22AnOddByte() {
        Called x = Called.of(TWO);
        for (int n = 1; n <= 25; n += 2) {
            due(faces(x, 0, java.util.Arrays.copyOf(rows(13, 0, 5), n)), NONE);
            due(x.fit(0), NONE);
            due(x.end(1), false);
        }
        due(x.status(4), 13);
    }

    static void promise22SecondsOfSixtyAndOfSixtyOne() {
        Called x = Called.of(TWO);
        due(faces(x, 0, 0, 0), 1);
        due(faces(x, 0, 0, 60), 1);
        due(x.status(4), 0);
        due(faces(x, 0, 0, 61), NONE);
        due(faces(x, 0, 0, 128), NONE);
        due(faces(x, 0, 0, 255), NONE);
        due(x.status(4), 3);
    }

    static void promise22NoneSuch() {
        for (int n = 1; n <= 6; n++) {
            StringBuilder text = new StringBuilder();
            for (int i = 0; i < n; i++) {
                char c = (char) ('a' + i);
                text.append("tunnel t").append(c).append(" gap 1 at 5 weighs 1;holder h").append(c).append(" breath 5 laughs 0;");
            }
            Called x = Called.of(text.toString());
            due(faces(x, n - 1, n - 1, 5), 1);
            due(x.fit(0), 1);
            due(faces(x, n, 0, 5), NONE);
            due(faces(x, -1, 0, 5), NONE);
            due(faces(x, LEAST, 0, 5), NONE);
            due(faces(x, MOST, 0, 5), NONE);
            due(faces(x, 0, n, 5), NONE);
            due(faces(x, 0, 255, 5), NONE);
            due(x.status(4), 6);
            due(x.fit(0), 1);
        }
        due(faces(Called.of(T), 0, 0, 5), NONE);
        due(faces(Called.of(H), 0, 0, 5), NONE);
        due(faces(new Called(), 0, 0, 5), NONE);
    }

    static void promise22RefusedAllStays() {
        Called x = Bounds.used();
        Bounds.refuses(x, 4, () -> faces(x, 0), () -> faces(x, 0, 0, 61), () -> faces(x, 2, 0, 5), () -> faces(x, 0, 0, 5, 1),
            () -> faces(x, 0, rows(13, 0, 5)));
        due(x.end(1), false);
        due(x.undo(), true);
    }

    static void promise22TheTapeGoes() {
        Called x = Called.of(TWO);
        due(faces(x, 0, 0, 5, 1, 5), 2);
        due(x.end(1), false);
        due(x.faces(0), NONE);
        due(faces(x, 0, 0, 5, 1), NONE);
        due(x.end(1), false);
        due(x.feed(0, 0, 0, 0, 0), 20);
    }

    static void promise22NoAct() {
        Called x = Called.of(TWO);
        due(faces(x, 0, 0, 5), 1);
        due(x.has(6), 0);
        due(x.undo(), false);
        due(x.fit(0), 1);
    }

    static void promise22JustThoseThatThereAre() {
        Bounds.dueToNoneSuch(NONE, (x, h, t) -> faces(x, t, h & 255, 5));
    }

    // ---- promise 23

    static void promise23NoFacesTold() {
        Called x = new Called();
        Bounds.dueToEach(NONE, x::fit, 0, 1, 2);
        x = Called.of(TWO);
        Bounds.dueToEach(NONE, x::fit, 0, 1, 2);
        due(faces(x, 0, 0, 61), NONE);
        Bounds.dueToEach(NONE, x::fit, 0, 1, 2);
        due(faces(x, 0, 0, 5), 1);
        due(x.fit(0), 1);
        due(x.read("!"), NONE);
        due(x.fit(0), 1);
        due(x.read(TWO), 4);
        Bounds.dueToEach(NONE, x::fit, 0, 1, 2);
    }

    static void promise23Others() {
        Called x = Called.of(TWO);
        due(faces(x, 0, 0, 5), 1);
        due(x.fit(2), 1000);
        Bounds.dueToEach(NONE, x::fit, -1, 3, LEAST, MOST);
    }

    private static void fit(Called x, int bits, int weights) {
        due(x.fit(0), Integer.bitCount(bits));
        due(x.fit(1), bits);
        due(x.fit(2), weights);
    }

    static void promise23NoneAndAllOfFour() {
        Called x = Called.of("tunnel t gap 1 at 5 weighs 1 at 6 weighs 2 at 7 weighs 3 at 8 weighs 1;"
            + "holder a breath 5 laughs 0;holder b breath 60 laughs 50;");
        due(faces(x, 0, 0, 5), 1);
        fit(x, 15, 1000);
        due(faces(x, 0, 0, 4), 1);
        fit(x, 0, 0);
        for (int k = 0; k < 4; k++) {
            due(faces(x, 0, 1, 5 + k), 1);
            fit(x, 1 << k, new int[] {142, 285, 428, 142}[k]);
        }
        due(faces(x, 0, 1, 9), 1);
        fit(x, 0, 0);
        due(faces(x, 0, 0, 5, 1, 6), 2);
        fit(x, 2, 285);
        due(faces(x, 0, 0, 5, 0, 6), 2);
        fit(x, 0, 0);
        x.give(1, 7);
        due(faces(x, 0, 1, 7), 1);
        fit(x, 12, 571);
    }

    static void promise23AsAllIsNow() {
        Called x = Called.of("tunnel t gap 1 at 5 weighs 1 at 3 weighs 2;holder h breath 5 laughs 0;tires breath-2;");
        due(faces(x, 0, 0, 3), 1);
        fit(x, 2, 666);
        x.drive(1);
        fit(x, 3, 1000);
        x.drive(1);
        fit(x, 0, 0);
        x.undo();
        fit(x, 3, 1000);
        x.believe(0, 0, 4);
        fit(x, 0, 0);
        x.believe(0, 0, 3);
        fit(x, 3, 1000);
        x.give(0, 2);
        fit(x, 0, 0);
        x.pause();
        x.give(0, 4);
        fit(x, 2, 666);
    }

    /** A ROAD takes FACES away, by its promise; goOn's promise does not say so. */
    static void promise23StillToldBehindAnImage() {
        Called x = Called.of(TWO);
        due(faces(x, 0, 0, 4), 1);
        fit(x, 0, 0);
        due(x.goOnWith(Called.closed(0, 4, 60, 1, 134, 160, 0, 0, 6, 60, 1, 134, 160, 0, 0)), true);
        fit(x, 1, 1000);
    }

    static void promise23OfItsTunnel() {
        Called x = Called.of(TWO);
        due(faces(x, 1, 1, 6), 1);
        fit(x, 1, 1000);
        due(faces(x, 0, 1, 6), 1);
        fit(x, 0, 0);
        due(faces(x, 0, 1, 0), 1);
        fit(x, 0, 0);
        x.believe(1, 1, 60);
        fit(x, 0, 0);
        x.believe(1, 0, 60);
        fit(x, 1, 1000);
    }
}
