import java.util.ArrayList;
import java.util.List;
import java.util.Map;

/** An object and the model of it: they get the same calls and must tell the same. */
final class Twins {
    final Play play;
    final Model model;
    /** The calls so far, {task} for a step and {task, operation, key, value} for a begin. */
    private final List<int[]> calls = new ArrayList<>();

    Twins() {
        this(new Play());
    }

    private Twins(Play play) {
        this.play = play;
        this.model = new Model(Model.nothingSeen());
    }

    /** Other twins in the same state; what their model comes to from now on is written down in a map. */
    Twins copy(Map<String, Integer> seen) {
        Twins copy = new Twins(play.copy());
        copy.calls.addAll(calls);
        for (int[] call : calls) {
            if (call.length == 1) {
                copy.model.step(call[0]);
            } else {
                copy.model.begin(call[0], call[1], call[2], call[3]);
            }
        }
        copy.model.seen = seen;
        return copy;
    }

    void begin(int task, int operation, int key, int value) {
        calls.add(new int[] {task, operation, key, value});
        play.begin(task, operation, key, value);
        model.begin(task, operation, key, value);
    }

    /** A step of both; what the object answered and, if that is another number, what was due. */
    int[] step(int task) {
        calls.add(new int[] {task});
        return new int[] {play.step(task), model.step(task)};
    }

    Twins steps(int task, int many) {
        for (int k = 0; k < many; k++) {
            step(task);
        }
        return this;
    }

    Twins whole(int operation, int key, int value) {
        begin(3, operation, key, value);
        for (int k = 0; k < 100 && !model.tasks[3].does.equals("IDLE"); k++) {
            step(3);
        }
        return this;
    }

    /** Puts keys, each with ten times the key as its value. */
    Twins put(int... keys) {
        for (int key : keys) {
            whole(Play.PUT, key, 10 * key);
        }
        return this;
    }

    Twins remove(int... keys) {
        for (int key : keys) {
            whole(Play.REMOVE, key, 0);
        }
        return this;
    }

    boolean tellTheSame() {
        return play.everything().equals(model.everything());
    }

    /** The calls so far, to be read by people. */
    String story() {
        StringBuilder text = new StringBuilder();
        for (int[] call : calls) {
            text.append(call.length == 1 ? " step(" + call[0] + ")"
                : " begin(" + call[0] + ", " + call[1] + ", " + call[2] + ", " + call[3] + ")");
        }
        return text.toString();
    }
}
