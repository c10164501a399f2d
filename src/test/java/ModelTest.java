import java.util.ArrayList;
import java.util.List;
import java.util.Map;

/**
 * Promises 1 to 10 together: many runs of begins and steps, whose answers are compared with the
 * model's. At many points everything that the face tells is compared too, and the tree's shape is
 * looked at. Every sentence of the document must have been come to, but for two that are rare; those
 * are come to in OrdersTest.
 */
public final class ModelTest {
    /** Begins and steps of a run; the other calls of the 512 are for looking at the object. */
    private static final int CHANGES = 500;
    private static int wrong;

    private final Dice dice;
    private final Play play = new Play();
    private final Model model;
    private final int run;
    private final List<String> calls = new ArrayList<>();
    /** How this run likes its calls; chosen from its number. */
    private final int keys;
    private final int order;
    private final int haste;
    private final int[] weights;
    private int nextKey;

    private ModelTest(int run, Map<String, Integer> seen) {
        this.run = run;
        this.model = new Model(seen);
        this.dice = new Dice(run);
        this.keys = new int[] {12, 40, 200, 1000}[below(4)];
        this.order = below(4);
        this.haste = below(4);
        this.weights = new int[][] {{1, 6, 1, 1}, {1, 4, 4, 3}, {1, 12, 0, 0}, {0, 3, 5, 1}}[below(4)];
        this.nextKey = order == 1 ? keys - 1 : 0;
    }

    private int below(int bound) {
        return dice.below(bound);
    }

    private int key() {
        if (order >= 2 || below(8) == 0) {
            return below(keys);
        }
        int key = nextKey;
        nextKey = Math.floorMod(nextKey + (order == 0 ? 1 : -1) * (1 + below(3)), keys);
        return key;
    }

    private int operation(int call) {
        int sum = 0;
        // Runs that first grow and then shrink reach the full queue and the sinking root.
        int[] w = order == 3 && call > 250 ? new int[] {0, 1, 8, run % 3} : weights;
        for (int weight : w) {
            sum += weight;
        }
        int drawn = below(sum);
        for (int k = 0; k < 4; k++) {
            drawn -= w[k];
            if (drawn < 0) {
                return k;
            }
        }
        return 0;
    }

    private void go() {
        int calm = 0;
        int liked = 0;
        for (int call = 0; call < CHANGES && wrong < 20; call++) {
            if (calm == 0) {
                liked = below(haste == 0 ? 1 : 4);
                calm = 1 + below(1 + 6 * haste);
            }
            calm--;
            int task = liked;
            if (model.tasks[task].does.equals("IDLE")) {
                begin(task, operation(call), key(), below(2000) - 1000);
            } else {
                step(task);
            }
            if (call % 24 == run % 24 || call == CHANGES - 1) {
                compare();
            }
        }
    }

    private void begin(int task, int operation, int key, int value) {
        calls.add("begin(" + task + ", " + operation + ", " + key + ", " + value + ")");
        play.begin(task, operation, key, value);
        model.begin(task, operation, key, value);
    }

    private void step(int task) {
        calls.add("step(" + task + ")");
        int want = model.step(task);
        due("step(" + task + ")", play.step(task), want);
        if (want == 2) {
            due("answer(" + task + ")", play.tree.answer(task), model.tasks[task].answer);
        }
    }

    private void compare() {
        List<Integer> got = play.all();
        List<Integer> want = model.all();
        if (!got.equals(want)) {
            fault("the face tells " + got + ", due is " + want);
        }
        String shape = Shape.fault(play);
        if (!shape.isEmpty()) {
            fault(shape);
        }
    }

    private void due(String call, int got, int want) {
        if (got != want) {
            fault(call + " answered " + got + ", due is " + want);
        }
    }

    private void fault(String text) {
        wrong++;
        System.out.println("run " + run + " after " + calls + ": " + text);
    }

    public static void main(String[] args) {
        int runs = args.length > 0 ? Integer.parseInt(args[0]) : 2500;
        Map<String, Integer> seen = Model.nothingSeen();
        for (int run = 0; run < runs && wrong == 0; run++) {
            new ModelTest(run, seen).go();
        }
        for (String sentence : Model.SENTENCES) {
            if (!seen.containsKey(sentence)) {
                wrong++;
                System.out.println("no run has come to: " + sentence);
            }
        }
        if (args.length > 0) {
            System.out.println(seen);
        }
        System.out.println(runs + " runs, " + wrong + " faults");
        if (wrong != 0) {
            System.exit(1);
        }
    }
}
