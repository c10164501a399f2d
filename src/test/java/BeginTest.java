/** Promise 2: begin. */
public final class BeginTest {
    private static final Check CHECK = new Check();

    public static void main(String[] args) {
        begunTask();
        wrongArguments();
        notIdle();
        joinTakesFirstPage();
        joinWithoutPage();
        joinOfRootPage();
        CHECK.end();
    }

    private static long tried(Play play, int task, int operation, int key) {
        play.begin(task, operation, key, 1);
        return 0;
    }

    private static void begunTask() {
        Play play = new Play();
        play.begin(0, Play.FIND, 0, 5);
        play.begin(1, Play.PUT, 999, 5);
        play.begin(2, Play.REMOVE, 500, 5);
        play.begin(3, Play.JOIN, 500, 5);
        CHECK.row("FIND 0", play.task(0), 0, Play.SEARCH, 0, 0, 0);
        CHECK.row("PUT 999", play.task(1), 0, Play.SEARCH, 0, 999, 0);
        CHECK.row("REMOVE 500", play.task(2), 0, Play.SEARCH, 0, 500, 0);
        CHECK.row("JOIN", play.task(3), 0, Play.SEARCH, 0, 0, 0);
        CHECK.row("no steps yet", play.counts(1), 0, 0, 0, 0);
        CHECK.due("value of the PUT", play.end(1), -1);
        CHECK.due("it came in", play.tree.entry(0, 0, true), 5);

        Play grown = new Play();
        grown.putAll(10, 20, 30, 40, 50);
        grown.begin(0, Play.FIND, 10, 0);
        CHECK.row("begins at the root", grown.task(0), 0, Play.SEARCH, 2, 10, 0);
    }

    private static void wrongArguments() {
        Play play = new Play();
        int[] tasks = {-1, 4, 5, Integer.MIN_VALUE, Integer.MAX_VALUE};
        for (int task : tasks) {
            CHECK.badArgument("task " + task, () -> tried(play, task, Play.FIND, 5));
            CHECK.badArgument("JOIN of task " + task, () -> tried(play, task, Play.JOIN, 5));
        }
        for (int operation : tasks) {
            CHECK.badArgument("operation " + operation, () -> tried(play, 0, operation, 5));
        }
        int[] keys = {-1, 1000, Integer.MIN_VALUE, Integer.MAX_VALUE};
        for (int key : keys) {
            for (int operation = 0; operation < 3; operation++) {
                int number = operation;
                CHECK.badArgument("key " + key, () -> tried(play, 0, number, key));
            }
        }
        CHECK.row("nothing has begun", play.task(0), 1, -1, -1, -1, -1);
        play.begin(0, Play.JOIN, -1, 0);
        play.begin(1, Play.JOIN, 1000, 0);
        CHECK.row("JOIN with key -1", play.task(0), 0, Play.SEARCH, 0, 0, 0);
        CHECK.row("JOIN with key 1000", play.task(1), 0, Play.SEARCH, 0, 0, 0);
    }

    private static void notIdle() {
        Play play = new Play();
        play.begin(0, Play.PUT, 7, 70);
        for (int operation = 0; operation < 4; operation++) {
            int number = operation;
            CHECK.badState("not idle", () -> tried(play, 0, number, 8));
        }
        CHECK.badArgument("not idle, and no such key", () -> tried(play, 0, Play.FIND, 1000));
        CHECK.badArgument("not idle, and no such operation", () -> tried(play, 0, 4, 8));
        CHECK.row("the PUT is as it was", play.task(0), 0, Play.SEARCH, 0, 7, 0);
        CHECK.due("the PUT ends", play.end(0), -1);
        CHECK.due("with its value", play.find(7), 70);
        play.begin(0, Play.FIND, 7, 0);
        CHECK.due("idle again, so it may begin", play.end(0), 70);

        Play small = smallLeaves();
        small.begin(0, Play.FIND, 7, 0);
        CHECK.badState("JOIN, not idle", () -> tried(small, 0, Play.JOIN, 0));
        CHECK.due("the queue is as it was", small.tree.queued(), 2);
    }

    /** Leaves 0 (one entry), 1 (three), 3 (one entry) under root 2; 3 came into the queue before 0. */
    private static Play smallLeaves() {
        Play play = new Play();
        play.putAll(10, 20, 30, 40, 50, 60, 70, 80);
        play.remove(80);
        play.remove(10);
        play.remove(20);
        return play;
    }

    private static void joinTakesFirstPage() {
        Play play = smallLeaves();
        CHECK.due("queued()", play.tree.queued(), 2);
        play.begin(0, Play.JOIN, 5, 5);
        CHECK.row("JOIN of page 3", play.task(0), 0, Play.SEARCH, 2, 999, 1);
        CHECK.due("queued() then", play.tree.queued(), 1);
        play.begin(1, Play.JOIN, 5, 5);
        CHECK.row("JOIN of page 0", play.task(1), 0, Play.SEARCH, 2, 30, 1);
        CHECK.due("queued() at last", play.tree.queued(), 0);
    }

    private static void joinWithoutPage() {
        Play play = new Play();
        play.putAll(10, 20, 30, 40, 50);
        play.begin(0, Play.JOIN, 5, 5);
        CHECK.row("JOIN without a page", play.task(0), 0, Play.SEARCH, 2, 0, 0);
        CHECK.row("is finished at once", play.steps(0, 1), 2);
        CHECK.due("with 0", play.tree.answer(0), 0);
        CHECK.row("by one step", play.counts(0), 1, 0, 0, 0);
    }

    private static void joinOfRootPage() {
        Play play = new Play();
        play.putAll(10, 20, 30, 40, 50);
        play.remove(10);
        play.remove(20);
        play.remove(50);
        CHECK.due("0 and 1 are queued", play.tree.queued(), 2);
        CHECK.due("0 is joined with 1", play.join(), 1);
        CHECK.due("0 is the root", play.tree.root(), 0);
        CHECK.due("1 is out of the queue", play.tree.queued(), 0);

        Play twice = new Play();
        twice.putAll(10, 20, 30, 40, 50);
        twice.remove(50);
        twice.remove(10);
        twice.remove(20);
        CHECK.due("1 is joined with 0, and 0 is still queued", twice.join() + 10 * twice.tree.queued(), 11);
        CHECK.due("0 is the root", twice.tree.root(), 0);
        twice.begin(0, Play.JOIN, 5, 5);
        CHECK.row("JOIN of the root's page", twice.task(0), 0, Play.SEARCH, 0, 0, 0);
        CHECK.due("it is out of the queue", twice.tree.queued(), 0);
        CHECK.row("is finished at once", twice.steps(0, 1), 2);
        CHECK.due("with 0", twice.tree.answer(0), 0);
    }
}
