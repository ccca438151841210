import java.util.Random;

/** Many texts by chance: BreathRoad and the model must find the same FAULT at the same place. */
public final class TextTest {
    public static void main(String[] args) {
        int texts = args.length > 0 ? Integer.parseInt(args[0]) : 30000;
        Check check = new Check();
        Random random = new Random(20261118);
        BreathRoad x = new BreathRoad();
        int[] faults = new int[7];
        for (int i = 0; i < texts; i++) {
            if (i % 4 == 0) {
                x = new BreathRoad();
            }
            String text = anyText(new RandomRoad(random), random.nextInt(10));
            ModelText model = new ModelText(text);
            check.due("put", Check.put(x, text), true);
            check.due("road of " + text, x.road(), model.fault == 0 ? model.statements : BreathRoad.NONE);
            check.due("fault of " + text, x.fault(0), model.fault);
            check.due("place of " + text, x.fault(1), model.place);
            faults[model.fault]++;
        }
        for (int kind = 0; kind < faults.length; kind++) {
            check.due("fault " + kind + " came up", faults[kind] > 0, true);
        }
        check.finish();
    }

    private static String anyText(RandomRoad road, int kind) {
        switch (kind) {
            case 0: return road.text();
            case 1: return road.crowdedText();
            default: return road.brokenText();
        }
    }
}
