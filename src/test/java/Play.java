import java.util.ArrayList;
import java.util.List;

/** Short words for the runs of calls that the tests are made of. */
final class Play {
    static final int FIND = 0;
    static final int PUT = 1;
    static final int REMOVE = 2;
    static final int JOIN = 3;
    static final int SEARCH = 0;
    static final int LOCK = 1;
    static final int HOLD = 2;

    final Tree tree;
    /** Which tasks have finished an operation. */
    final boolean[] finished;

    Play() {
        this(new Tree(), new boolean[4]);
    }

    private Play(Tree tree, boolean[] finished) {
        this.tree = tree;
        this.finished = finished;
    }

    /** Another object in the same state. */
    Play copy() {
        return new Play(tree.copy(), finished.clone());
    }

    void begin(int task, int operation, int key, int value) {
        tree.begin(task, operation, key, value);
    }

    int step(int task) {
        int answer = tree.step(task);
        finished[task] |= answer == 2;
        return answer;
    }

    /** Steps a task a number of times; the answers of the steps. */
    int[] steps(int task, int many) {
        int[] answers = new int[many];
        for (int k = 0; k < many; k++) {
            answers[k] = step(task);
        }
        return answers;
    }

    /** Steps a task until it is finished; its answer. */
    int end(int task) {
        for (int k = 0; k < 400; k++) {
            if (step(task) == 2) {
                return tree.answer(task);
            }
        }
        throw new AssertionError("task " + task + " does not end");
    }

    int whole(int task, int operation, int key, int value) {
        tree.begin(task, operation, key, value);
        return end(task);
    }

    int find(int key) {
        return whole(3, FIND, key, 0);
    }

    int put(int key, int value) {
        return whole(3, PUT, key, value);
    }

    int remove(int key) {
        return whole(3, REMOVE, key, 0);
    }

    int join() {
        return whole(3, JOIN, 0, 0);
    }

    /** Puts keys, each with ten times the key as its value. */
    void putAll(int... keys) {
        for (int key : keys) {
            put(key, 10 * key);
        }
    }

    /** A page's kind, level, LOW, HIGH, RIGHT, number of entries and locker. */
    int[] page(int page) {
        int[] row = new int[7];
        for (int what = 0; what < 7; what++) {
            row[what] = tree.page(page, what);
        }
        return row;
    }

    int freePages() {
        int many = 0;
        for (int page = 0; page < 24; page++) {
            many += tree.page(page, 0) == 0 ? 1 : 0;
        }
        return many;
    }

    /** The entries of a node, one after the other: key or bound, value or child. */
    int[] entries(int page) {
        int[] row = new int[2 * tree.page(page, 5)];
        for (int k = 0; k < row.length; k++) {
            row[k] = tree.entry(page, k / 2, k % 2 == 1);
        }
        return row;
    }

    /** A task's idleness, phase, place, key and level. */
    int[] task(int task) {
        int[] row = new int[5];
        for (int what = 0; what < 5; what++) {
            row[what] = tree.look(task, what);
        }
        return row;
    }

    /** A task's steps, blocked steps, ways to the right and restarts. */
    int[] counts(int task) {
        int[] row = new int[4];
        for (int what = 0; what < 4; what++) {
            row[what] = tree.look(task, 5 + what);
        }
        return row;
    }

    /** Everything that the face tells without changing anything. */
    List<Integer> all() {
        List<Integer> all = new ArrayList<>();
        all.add(tree.root());
        all.add(tree.queued());
        for (int task = 0; task < 4; task++) {
            addRow(all, task(task));
            addRow(all, counts(task));
        }
        for (int page = 0; page < 24; page++) {
            int[] row = page(page);
            addRow(all, row);
            if (row[0] == 1) {
                addRow(all, entries(page));
                all.add(tree.under(page));
            }
        }
        return all;
    }

    /** The same, and the answers of the tasks. */
    List<Integer> everything() {
        List<Integer> all = all();
        for (int task = 0; task < 4; task++) {
            addAnswer(all, task);
        }
        return all;
    }

    private void addAnswer(List<Integer> all, int task) {
        all.add(finished[task] ? 1 : 0);
        if (finished[task]) {
            all.add(tree.answer(task));
        }
    }

    private static void addRow(List<Integer> all, int[] row) {
        for (int number : row) {
            all.add(number);
        }
    }
}
