import java.util.List;

/** Every call that the document refuses in the state that a tree is in now. */
final class Refusals {
    static final int LEAST = Integer.MIN_VALUE;
    static final int MOST = Integer.MAX_VALUE;
    static final int[] WRONG_TASKS = {-1, 4, LEAST, MOST};
    static final int[] WRONG_OPERATIONS = {-1, 4, LEAST, MOST};
    static final int[] WRONG_KEYS = {-1, 1000, LEAST, MOST};
    static final int[] WRONG_PAGES = {-1, 24, LEAST, MOST};
    static final int[] WRONG_LOOKS = {-1, 9, LEAST, MOST};
    static final int[] WRONG_PAGE_LOOKS = {-1, 7, LEAST, MOST};

    private static final String ARGUMENT = "IllegalArgumentException";
    private static final String STATE = "IllegalStateException";
    private static final String ELEMENT = "NoSuchElementException";

    private final Check check;
    private final Play play;
    /** Looks at everything after each call; otherwise the caller does, after all of them. */
    private final boolean closely;

    Refusals(Check check, Play play, boolean closely) {
        this.check = check;
        this.play = play;
        this.closely = closely;
    }

    void all() {
        begin();
        step();
        answer();
        look();
        page();
        entry();
        under();
    }

    private void refused(String what, String exception, Check.Call call) {
        List<Integer> before = closely ? play.everything() : null;
        check.fails(what, exception, call);
        if (closely) {
            check.same("nothing has changed after " + what, before, play.everything());
        }
    }

    private void refusedBegin(String exception, int task, int operation, int key) {
        String what = "begin(" + task + ", " + operation + ", " + key + ", 77)";
        refused(what, exception, () -> {
            play.tree.begin(task, operation, key, 77);
            return 0;
        });
    }

    void begin() {
        for (int task : WRONG_TASKS) {
            for (int operation = 0; operation < 4; operation++) {
                refusedBegin(ARGUMENT, task, operation, 5);
            }
        }
        for (int task = 0; task < 4; task++) {
            for (int operation : WRONG_OPERATIONS) {
                refusedBegin(ARGUMENT, task, operation, 5);
            }
            for (int key : WRONG_KEYS) {
                for (int operation = 0; operation < 3; operation++) {
                    refusedBegin(ARGUMENT, task, operation, key);
                }
            }
            if (play.tree.look(task, 0) == 0) {
                refuseBusy(task);
            }
        }
    }

    private void refuseBusy(int task) {
        for (int operation = 0; operation < 4; operation++) {
            refusedBegin(STATE, task, operation, 0);
            refusedBegin(STATE, task, operation, 999);
        }
        for (int key : WRONG_KEYS) {
            refusedBegin(STATE, task, Play.JOIN, key);
        }
    }

    void step() {
        for (int task : WRONG_TASKS) {
            refused("step(" + task + ")", ARGUMENT, () -> play.tree.step(task));
        }
        for (int task = 0; task < 4; task++) {
            int number = task;
            if (play.tree.look(task, 0) == 1) {
                refused("step(" + task + ") when it is idle", STATE, () -> play.tree.step(number));
            }
        }
    }

    void answer() {
        for (int task : WRONG_TASKS) {
            refused("answer(" + task + ")", ARGUMENT, () -> play.tree.answer(task));
        }
        for (int task = 0; task < 4; task++) {
            int number = task;
            if (!play.finished[task]) {
                refused("answer(" + task + ") of none", ELEMENT, () -> play.tree.answer(number));
            }
        }
    }

    void look() {
        for (int task : WRONG_TASKS) {
            for (int what = 0; what < 9; what++) {
                refusedLook(task, what);
            }
        }
        for (int what : WRONG_LOOKS) {
            for (int task = 0; task < 4; task++) {
                refusedLook(task, what);
            }
            refusedLook(-1, what);
        }
    }

    private void refusedLook(int task, int what) {
        refused("look(" + task + ", " + what + ")", ARGUMENT, () -> play.tree.look(task, what));
    }

    void page() {
        for (int page : WRONG_PAGES) {
            for (int what = 0; what < 7; what++) {
                refusedPage(page, what);
            }
        }
        for (int what : WRONG_PAGE_LOOKS) {
            for (int page = 0; page < 24; page++) {
                refusedPage(page, what);
            }
            refusedPage(24, what);
        }
    }

    private void refusedPage(int page, int what) {
        refused("page(" + page + ", " + what + ")", ARGUMENT, () -> play.tree.page(page, what));
    }

    void entry() {
        for (int page : WRONG_PAGES) {
            refusedEntry(page, 0);
            refusedEntry(page, -1);
            refusedEntry(page, 4);
        }
        for (int page = 0; page < 24; page++) {
            boolean isNode = play.tree.page(page, 0) == 1;
            int first = isNode ? play.tree.page(page, 5) : 0;
            for (int k = first; k < 6; k++) {
                refusedEntry(page, k);
            }
            refusedEntry(page, -1);
            refusedEntry(page, LEAST);
            refusedEntry(page, MOST);
        }
    }

    private void refusedEntry(int page, int k) {
        String what = "entry(" + page + ", " + k + ", ";
        refused(what + "false)", ELEMENT, () -> play.tree.entry(page, k, false));
        refused(what + "true)", ELEMENT, () -> play.tree.entry(page, k, true));
    }

    void under() {
        for (int page : WRONG_PAGES) {
            refused("under(" + page + ")", ELEMENT, () -> play.tree.under(page));
        }
        for (int page = 0; page < 24; page++) {
            int number = page;
            if (play.tree.page(page, 0) != 1) {
                refused("under(" + page + ")", ELEMENT, () -> play.tree.under(number));
            }
        }
    }
}
