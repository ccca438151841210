/** Counts answers that are not as due, and puts texts and bytes on a tape. */
final class Check {
    private int wrong = 0;
    private int asked = 0;

    void due(String call, long got, long want) {
        asked++;
        if (got != want) {
            wrong++;
            System.out.println(call + " answered " + got + ", due is " + want);
        }
    }

    void due(String call, boolean got, boolean want) {
        due(call, got ? 1 : 0, want ? 1 : 0);
    }

    void finish() {
        System.out.println(asked + " answers looked at, " + wrong + " not as due");
        if (wrong != 0 || asked == 0) {
            System.exit(1);
        }
    }

    /** The tape must be empty: false if it did not take the bytes. */
    static boolean put(BreathRoad x, int... bytes) {
        int fed = 0;
        for (int i = 0; i < bytes.length; i += 20) {
            int[] numbers = new int[5];
            for (int k = 0; k < 20; k++) {
                int octet = i + k < bytes.length ? bytes[i + k] : 32;
                numbers[k / 4] = numbers[k / 4] << 8 | octet & 255;
            }
            fed = x.feed(numbers[0], numbers[1], numbers[2], numbers[3], numbers[4]);
        }
        return fed != BreathRoad.NONE && x.end(bytes.length);
    }

    static boolean put(BreathRoad x, String text) {
        return put(x, text.chars().toArray());
    }

    static int road(BreathRoad x, String text) {
        return put(x, text) ? x.road() : -2;
    }

    static BreathRoad of(String text) {
        BreathRoad x = new BreathRoad();
        if (road(x, text) < 0) {
            System.out.println("no ROAD: fault " + x.fault(0) + " at " + x.fault(1) + " of " + text);
        }
        return x;
    }
}
