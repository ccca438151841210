import java.lang.management.ManagementFactory;

/** All calls of a run live in one room: a new object is small, and no call makes anything. */
public final class RoomTest {
    private static long allocated() {
        com.sun.management.ThreadMXBean bean = (com.sun.management.ThreadMXBean) ManagementFactory.getThreadMXBean();
        return bean.getThreadAllocatedBytes(Thread.currentThread().getId());
    }

    public static void main(String[] args) {
        Check check = new Check();
        use(new BreathRoad());
        long before = allocated();
        BreathRoad x = new BreathRoad();
        long made = allocated() - before;
        check.due("a new object has " + made + " bytes, 60000 at the most", made <= 60000, true);
        before = allocated();
        use(x);
        long used = allocated() - before;
        check.due("calls made " + used + " bytes, 1000 at the most", used <= 1000, true);
        check.finish();
    }

    private static final int[] TEXT = ("tunnel ta gap 4 at 8 weighs 3 at 15 weighs 2 at 33 weighs 1;tunnel tb gap 0 at 5 weighs 1"
        + " at 21 weighs 4;holder ha breath 22 laughs 3;holder hb breath 35 laughs 0;thinks ha tb 25;gives hb 25;"
        + "worth if(made=1,30-held/4,0)+last*12+beaten*3;tires min(60,max(2,breath-held/3+gap/6));").chars().toArray();
    private static final int[] NUMBERS = new int[5];

    private static void use(BreathRoad x) {
        for (int round = 0; round < 3; round++) {
            for (int i = 0; i < TEXT.length; i += 20) {
                for (int k = 0; k < 20; k++) {
                    NUMBERS[k / 4] = NUMBERS[k / 4] << 8 | (i + k < TEXT.length ? TEXT[i + k] : 32);
                }
                x.feed(NUMBERS[0], NUMBERS[1], NUMBERS[2], NUMBERS[3], NUMBERS[4]);
            }
            x.end(TEXT.length);
            x.road();
            for (int h = 0; h < 2; h++) {
                for (int t = 0; t < 2; t++) {
                    askAll(x, h, t);
                }
            }
            x.feed(0, 0, 0, 0, 0);
            x.end(2);
            x.faces(0);
            x.fit(0);
            x.image();
            x.goOn();
            x.undo();
        }
    }

    private static void askAll(BreathRoad x, int h, int t) {
        x.has(0);
        x.letter(0, t, 0);
        x.tunnel(t, 10);
        x.holder(h, 10);
        x.score(h);
        x.likely(t, 7);
        x.holds(h, t, 9);
        x.made(h, t);
        x.worth(h, t, 9);
        x.tired(h, t, 9, 8);
        x.alone(h, t, 1);
        x.on(h, 4, 1);
        x.rest(t, h);
        x.hidden(h, t, 0);
        x.pace(t, h, 0);
        x.whom(h, t, 1);
        x.drive(30);
        x.pause();
        x.believe(h, t, 5);
        x.give(h, 7);
        x.seed(5);
        x.kept(3, 3);
        x.octet(3);
        x.status(0);
    }
}
