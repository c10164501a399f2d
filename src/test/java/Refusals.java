import java.util.ArrayList;
import java.util.List;
import java.util.function.ToIntFunction;

/** The calls that the document refuses in the state that a tree is in. */
final class Refusals {
    /** A refused call, and what it must throw. */
    record Refusal(String what, String exception, ToIntFunction<Tree> call) {
    }

    static final int LEAST = Integer.MIN_VALUE;
    static final int MOST = Integer.MAX_VALUE;
    static final int[] WRONG_TASKS = {-1, 4, LEAST, MOST};
    static final int[] WRONG_OPERATIONS = {-1, 4, LEAST, MOST};
    static final int[] WRONG_KEYS = {-1, 1000, LEAST, MOST};
    static final int[] WRONG_PAGES = {-1, 24, LEAST, MOST};
    static final int[] WRONG_LOOKS = {-1, 9, LEAST, MOST};
    static final int[] WRONG_PAGE_LOOKS = {-1, 7, LEAST, MOST};

    private static final String ARGUMENT = "IllegalArgumentException";
    private static final String STATE = "IllegalStateException";
    private static final String ELEMENT = "NoSuchElementException";

    private final Play play;
    private final List<Refusal> found = new ArrayList<>();

    private Refusals(Play play) {
        this.play = play;
    }

    /** The refused calls of one method of the face, by its name. */
    static List<Refusal> of(String method, Play play) {
        Refusals refusals = new Refusals(play);
        switch (method) {
            case "begin" -> refusals.begin();
            case "step" -> refusals.step();
            case "answer" -> refusals.answer();
            case "look" -> refusals.look();
            case "page" -> refusals.page();
            case "entry" -> refusals.entry();
            default -> refusals.under();
        }
        return refusals.found;
    }

    private void add(String what, String exception, ToIntFunction<Tree> call) {
        found.add(new Refusal(what, exception, call));
    }

    private void addBegin(String exception, int task, int operation, int key) {
        add("begin(" + task + ", " + operation + ", " + key + ", 77)", exception, tree -> {
            tree.begin(task, operation, key, 77);
            return 0;
        });
    }

    private void begin() {
        for (int task : WRONG_TASKS) {
            for (int operation = 0; operation < 4; operation++) {
                addBegin(ARGUMENT, task, operation, 5);
            }
        }
        for (int task = 0; task < 4; task++) {
            for (int operation : WRONG_OPERATIONS) {
                addBegin(ARGUMENT, task, operation, 5);
            }
            for (int key : WRONG_KEYS) {
                for (int operation = 0; operation < 3; operation++) {
                    addBegin(ARGUMENT, task, operation, key);
                }
            }
            if (play.tree.look(task, 0) == 0) {
                beginOfOneAtWork(task);
            }
        }
    }

    private void beginOfOneAtWork(int task) {
        for (int operation = 0; operation < 4; operation++) {
            addBegin(STATE, task, operation, 0);
            addBegin(STATE, task, operation, 999);
        }
        for (int key : WRONG_KEYS) {
            addBegin(STATE, task, Play.JOIN, key);
        }
    }

    private void step() {
        for (int task : WRONG_TASKS) {
            add("step(" + task + ")", ARGUMENT, tree -> tree.step(task));
        }
        for (int task = 0; task < 4; task++) {
            int number = task;
            if (play.tree.look(task, 0) == 1) {
                add("step(" + task + ") when it is idle", STATE, tree -> tree.step(number));
            }
        }
    }

    private void answer() {
        for (int task : WRONG_TASKS) {
            add("answer(" + task + ")", ARGUMENT, tree -> tree.answer(task));
        }
        for (int task = 0; task < 4; task++) {
            int number = task;
            if (!play.finished[task]) {
                add("answer(" + task + ") of none", ELEMENT, tree -> tree.answer(number));
            }
        }
    }

    private void look() {
        for (int task : WRONG_TASKS) {
            for (int what = 0; what < 9; what++) {
                addLook(task, what);
            }
        }
        for (int what : WRONG_LOOKS) {
            for (int task = 0; task < 4; task++) {
                addLook(task, what);
            }
            addLook(-1, what);
        }
    }

    private void addLook(int task, int what) {
        add("look(" + task + ", " + what + ")", ARGUMENT, tree -> tree.look(task, what));
    }

    private void page() {
        for (int page : WRONG_PAGES) {
            for (int what = 0; what < 7; what++) {
                addPage(page, what);
            }
        }
        for (int what : WRONG_PAGE_LOOKS) {
            for (int page = 0; page < 24; page++) {
                addPage(page, what);
            }
            addPage(24, what);
        }
    }

    private void addPage(int page, int what) {
        add("page(" + page + ", " + what + ")", ARGUMENT, tree -> tree.page(page, what));
    }

    private void entry() {
        for (int page : WRONG_PAGES) {
            addEntry(page, 0);
            addEntry(page, -1);
            addEntry(page, 4);
        }
        for (int page = 0; page < 24; page++) {
            boolean isNode = play.tree.page(page, 0) == 1;
            int first = isNode ? play.tree.page(page, 5) : 0;
            for (int k = first; k < 6; k++) {
                addEntry(page, k);
            }
            addEntry(page, -1);
            addEntry(page, LEAST);
            addEntry(page, MOST);
        }
    }

    private void addEntry(int page, int k) {
        String what = "entry(" + page + ", " + k + ", ";
        add(what + "false)", ELEMENT, tree -> tree.entry(page, k, false));
        add(what + "true)", ELEMENT, tree -> tree.entry(page, k, true));
    }

    private void under() {
        for (int page : WRONG_PAGES) {
            add("under(" + page + ")", ELEMENT, tree -> tree.under(page));
        }
        for (int page = 0; page < 24; page++) {
            int number = page;
            if (play.tree.page(page, 0) != 1) {
                add("under(" + page + ")", ELEMENT, tree -> tree.under(number));
            }
        }
    }
}
