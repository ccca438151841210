/** Boundary cases of a new object and of the tape. */
public final class Bounds01To03Test {
    private static final int NONE = Bounds.NONE;
    private static final int NOTHING = Bounds.NOTHING;
    private static final int BLANKS = 0x20202020;
    /** Twenty bytes, one statement. */
    private static final int[] SEEN_TEN = {0x7365656e, 0x2031303b, BLANKS, BLANKS, BLANKS};

    public static void main(String[] args) {
        Bounds.run(Bounds01To03Test.class, 1, 3);
    }

    private static void due(long got, long want) {
        Bounds.due(got, want);
    }

    private static void due(boolean got, boolean want) {
        Bounds.due(got, want);
    }

    private static int feed(Called x, int... numbers) {
        return x.feed(numbers[0], numbers[1], numbers[2], numbers[3], numbers[4]);
    }

    /** So many bytes of statements on the tape, blanks behind the last whole one. */
    private static Called withBytes(int n) {
        Called x = new Called();
        for (int fed = 0; fed < n; fed += 20) {
            feed(x, SEEN_TEN);
        }
        due(x.end(n), true);
        return x;
    }

    static void promise01NoTunnelsAndNoHolders() {
        Called x = new Called();
        due(x.has(0), 0);
        due(x.has(1), 0);
        due(x.letter(0, 0, 0), NONE);
        due(x.letter(1, 0, 0), NONE);
        due(x.tunnel(0, 0), NONE);
        due(x.holder(0, 0), NONE);
        due(x.score(0), NOTHING);
        due(x.likely(0, 0), NONE);
        due(x.holds(0, 0, 1), NONE);
        due(x.made(0, 0), NONE);
        due(x.worth(0, 0, 1), NOTHING);
        due(x.tired(0, 0, 1, 0), NONE);
        due(x.alone(0, 0, 0), NOTHING);
        due(x.on(0, 1, 0), NOTHING);
        due(x.rest(0, NONE), NONE);
        due(x.rest(0, 0), NONE);
        due(x.hidden(0, 0, 0), NOTHING);
        due(x.pace(0, 1, 0), NONE);
        due(x.whom(0, 0, 0), NOTHING);
    }

    static void promise01NothingWasDoneYet() {
        Called x = new Called();
        for (int what = 2; what < 7; what++) {
            due(x.has(what), 0);
        }
        due(x.fault(0), 0);
        due(x.fault(1), NONE);
        due(x.fit(0), NONE);
        due(x.kept(0, 0), NONE);
        due(x.octet(0), NONE);
        for (int kind = 0; kind < 5; kind++) {
            due(x.status(kind), 0);
        }
    }

    static void promise01NoActCanBeDoneButARest() {
        Called x = new Called();
        due(x.drive(1), NONE);
        due(x.believe(0, 0, 1), NONE);
        due(x.give(0, 1), NONE);
        due(x.status(2), 3);
        due(x.undo(), false);
        due(x.pause(), 0);
        due(x.has(6), 1);
    }

    static void promise01TheSeedIsOne() {
        Called x = new Called();
        due(x.has(7), 1);
        x.read("tunnel t gap 0 at 1 weighs 1;");
        due(x.has(7), 1);
        x.drive(1);
        due(x.has(7), 1103527590);
    }

    static void promise01TheTapeIsEmpty() {
        Called x = new Called();
        due(x.end(1), false);
        due(x.end(0), true);
        due(x.feed(0, 0, 0, 0, 0), 20);
    }

    static void promise01ObjectsShareNothing() {
        Called used = Bounds.used();
        used.feed(1, 2, 3, 4, 5);
        Called x = new Called();
        due(x.end(1), false);
        for (int what = 0; what < 7; what++) {
            due(x.has(what), 0);
        }
        due(x.has(7), 1);
        due(x.fault(0), 0);
        due(x.octet(0), NONE);
        due(x.status(1), 0);
        due(used.has(0), 2);
    }

    static void promise02TwentyBytesEachTime() {
        Called x = new Called();
        for (int i = 1; i <= 5; i++) {
            due(feed(x, SEEN_TEN), 20 * i);
        }
        due(x.road(), 5);
        due(feed(x, SEEN_TEN), 20);
    }

    static void promise02OfEachNumberTheHighestByteFirst() {
        for (int place = 0; place < 20; place++) {
            for (int octet : new int[] {0, '!', 127, 128, 255}) {
                int[] numbers = {BLANKS, BLANKS, BLANKS, BLANKS, BLANKS};
                int shift = 24 - place % 4 * 8;
                numbers[place / 4] = numbers[place / 4] & ~(255 << shift) | octet << shift;
                Called x = new Called();
                due(feed(x, numbers), 20);
                due(x.road(), NONE);
                due(x.fault(1), place);
            }
        }
    }

    static void promise02BytesComeBehindThoseOnTheTape() {
        Called x = new Called();
        feed(x, SEEN_TEN);
        due(x.end(7), true);
        due(x.feed(0x303b2020, BLANKS, BLANKS, BLANKS, BLANKS), 27);
        due(x.road(), 1);
        due(x.has(2), 100);
    }

    static void promise02JustSixteenHundred() {
        Called x = new Called();
        for (int i = 1; i < 80; i++) {
            feed(x, SEEN_TEN);
        }
        due(x.feed(0x66696e65, 0x20333b20, BLANKS, BLANKS, BLANKS), 1600);
        due(x.status(0), 0);
        due(x.end(1600), true);
        due(x.road(), 80);
        due(x.has(3), 3);
    }

    static void promise02MoreThanSixteenHundred() {
        Called x = withBytes(1600);
        due(x.feed('!' << 24, 0, 0, 0, 0), NONE);
        due(x.status(0), 1);
        due(feed(x, SEEN_TEN), NONE);
        due(x.status(0), 2);
        due(x.end(1601), false);
        due(x.end(1600), true);
        due(x.road(), 80);
    }

    static void promise02OneByteTooManyAndOneLess() {
        for (int n = 1581; n < 1600; n++) {
            Called x = withBytes(n);
            due(feed(x, SEEN_TEN), NONE);
            due(x.status(0), 1);
            due(x.end(n + 1), false);
        }
        Called x = withBytes(1580);
        due(feed(x, SEEN_TEN), 1600);
        due(x.status(0), 0);
        x = withBytes(1579);
        due(feed(x, SEEN_TEN), 1599);
    }

    static void promise02RoomAgainBehindAnEndOrARoad() {
        Called x = withBytes(1600);
        due(feed(x, SEEN_TEN), NONE);
        due(x.end(1580), true);
        due(feed(x, SEEN_TEN), 1600);
        due(x.road(), 80);
        due(feed(x, SEEN_TEN), 20);
        due(x.road(), 1);
    }

    static void promise02RefusedChangesNothing() {
        Called x = Bounds.used();
        for (int i = 0; i < 80; i++) {
            feed(x, SEEN_TEN);
        }
        Bounds.refuses(x, 0, () -> feed(x, SEEN_TEN), () -> x.feed(-1, -1, -1, -1, -1));
        due(x.road(), 80);
        due(x.has(2), 10);
    }

    static void promise03JustSoMany() {
        Called x = withBytes(40);
        due(x.end(40), true);
        due(x.status(0), 0);
        due(x.road(), 2);
    }

    static void promise03OneMore() {
        Called x = withBytes(40);
        due(x.end(41), false);
        due(x.status(0), 1);
        due(x.end(Bounds.MOST), false);
        due(x.status(0), 2);
        due(x.road(), 2);
    }

    static void promise03BelowZero() {
        Called x = withBytes(40);
        due(x.end(-1), false);
        due(x.end(Bounds.LEAST), false);
        due(x.status(0), 2);
        due(x.road(), 2);
    }

    static void promise03None() {
        Called x = withBytes(40);
        due(x.end(0), true);
        due(x.end(0), true);
        due(x.status(0), 0);
        due(x.end(1), false);
        due(x.road(), 0);
    }

    static void promise03TheFirstOnesAlone() {
        Called x = withBytes(40);
        due(x.end(27), true);
        due(x.end(28), false);
        due(x.road(), NONE);
        due(x.fault(1), 27);
        x = withBytes(40);
        due(x.end(28), true);
        due(x.road(), 2);
    }

    static void promise03OfSixteenHundred() {
        Called x = withBytes(1600);
        due(x.end(1601), false);
        due(x.end(1600), true);
        due(x.end(1599), true);
        due(x.end(1600), false);
    }

    static void promise03WhatWasCutOffStaysAway() {
        Called x = withBytes(20);
        due(x.end(5), true);
        due(x.end(6), false);
        due(x.feed(0x373b2020, BLANKS, BLANKS, BLANKS, BLANKS), 25);
        due(x.road(), 1);
        due(x.has(2), 7);
    }

    static void promise03RefusedChangesNothing() {
        Called x = Bounds.used();
        feed(x, SEEN_TEN);
        due(x.end(8), true);
        Bounds.refuses(x, 0, () -> Bounds.asNone(x.end(9)), () -> Bounds.asNone(x.end(-1)));
        due(x.end(9), false);
        due(x.end(8), true);
        due(x.road(), 1);
        due(x.has(2), 10);
    }
}
