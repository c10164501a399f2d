/** Promise 3: a step in the phase SEARCH. */
public final class SearchTest {
    private static final Check CHECK = new Check();

    public static void main(String[] args) {
        findThereOrNot();
        bounds();
        wrongTasks();
        toTheRight();
        restartBehindShare();
        restartAtDeadNode();
        restartBelowWanted();
        newRootTwoTasks();
        joinBelowWanted();
        CHECK.end();
    }

    private static void findThereOrNot() {
        Play play = new Play();
        CHECK.due("find in an empty leaf", play.find(5), -1);
        play.putAll(5, 3, 9);
        CHECK.due("find 3", play.find(3), 30);
        CHECK.due("find 5", play.find(5), 50);
        CHECK.due("find 9", play.find(9), 90);
        CHECK.due("find 4", play.find(4), -1);
        CHECK.due("find 10", play.find(10), -1);
        play.begin(0, Play.FIND, 3, 0);
        CHECK.row("one step, without a lock", play.steps(0, 1), 2);
        CHECK.row("its counts", play.counts(0), 1, 0, 0, 0);
        play.begin(1, Play.PUT, 4, 0);
        play.steps(1, 2);
        CHECK.due("a lock does not hinder a FIND", play.find(3), 30);
    }

    private static void bounds() {
        Play play = new Play();
        play.putAll(10, 20, 30, 40, 50);
        play.begin(0, Play.FIND, 30, 0);
        CHECK.row("from the root to a child", play.steps(0, 1), 0);
        CHECK.row("a bound belongs to its own child", play.task(0), 0, Play.SEARCH, 0, 30, 0);
        play.begin(1, Play.FIND, 31, 0);
        play.steps(1, 1);
        CHECK.row("above the bound", play.task(1), 0, Play.SEARCH, 1, 31, 0);
        play.begin(2, Play.FIND, 0, 0);
        play.steps(2, 1);
        CHECK.due("key 0", play.tree.look(2, 2), 0);
        play.begin(3, Play.FIND, 999, 0);
        play.steps(3, 1);
        CHECK.due("key 999", play.tree.look(3, 2), 1);
    }

    private static void wrongTasks() {
        Play play = new Play();
        for (int task : new int[] {-1, 4, Integer.MIN_VALUE, Integer.MAX_VALUE}) {
            CHECK.badArgument("step(" + task + ")", () -> play.tree.step(task));
        }
        CHECK.badState("step of an idle task", () -> play.tree.step(0));
        play.find(4);
        CHECK.badState("step of a finished task", () -> play.tree.step(3));
        CHECK.row("such steps do not count", play.counts(3), 1, 0, 0, 0);
        CHECK.row("nor here", play.counts(0), 0, 0, 0, 0);
    }

    private static void toTheRight() {
        Play play = new Play();
        play.putAll(10, 20, 30, 40);
        play.begin(0, Play.PUT, 50, 500);
        CHECK.row("it splits", play.steps(0, 3), 0, 0, 3);
        play.begin(1, Play.FIND, 50, 0);
        CHECK.row("over the right link", play.steps(1, 2), 0, 2);
        CHECK.due("found", play.tree.answer(1), 500);
        CHECK.row("one way to the right", play.counts(1), 2, 0, 1, 0);
        play.begin(1, Play.FIND, 30, 0);
        CHECK.row("HIGH itself is not to the right", play.steps(1, 1), 2);
        CHECK.due("found", play.tree.answer(1), 300);
        CHECK.row("counts go on from operation to operation", play.counts(1), 3, 0, 1, 0);
    }

    private static void restartBehindShare() {
        Play play = new Play();
        play.putAll(10, 20, 30, 40, 50, 60, 70);
        play.remove(10);
        play.remove(20);
        play.begin(0, Play.FIND, 50, 0);
        play.begin(1, Play.FIND, 60, 0);
        play.steps(0, 1);
        play.steps(1, 1);
        CHECK.due("both are at page 1", play.tree.look(0, 2) + play.tree.look(1, 2), 2);
        CHECK.due("40 and 50 go over to page 0", play.join(), 1);
        CHECK.row("page 1", play.page(1), 1, 0, 50, 999, -1, 2, -1);
        CHECK.row("its LOW is not below 50", play.steps(0, 1), 0);
        CHECK.row("restart", play.task(0), 0, Play.SEARCH, 2, 50, 0);
        CHECK.row("counted", play.counts(0), 2, 0, 0, 1);
        CHECK.row("again", play.steps(0, 2), 0, 2);
        CHECK.due("found", play.tree.answer(0), 500);
        CHECK.row("60 is where it was", play.steps(1, 1), 2);
        CHECK.due("found", play.tree.answer(1), 600);
        CHECK.row("without a restart", play.counts(1), 2, 0, 0, 0);
    }

    private static void restartAtDeadNode() {
        Play play = new Play();
        play.putAll(10, 20, 30, 40, 50);
        play.remove(10);
        play.remove(20);
        play.begin(0, Play.FIND, 40, 0);
        play.begin(1, Play.FIND, 40, 0);
        play.steps(0, 1);
        CHECK.due("joined", play.join(), 1);
        CHECK.due("page 1 is dead", play.tree.page(1, 0), 2);
        CHECK.due("page 2, the old root, is dead", play.tree.page(2, 0), 2);
        CHECK.row("restart from page 1", play.steps(0, 1), 0);
        CHECK.row("to the new root", play.task(0), 0, Play.SEARCH, 0, 40, 0);
        CHECK.row("restart from the old root", play.steps(1, 1), 0);
        CHECK.row("to the new root", play.task(1), 0, Play.SEARCH, 0, 40, 0);
        CHECK.row("found", play.steps(0, 1), 2);
        CHECK.due("found", play.tree.answer(0), 400);
        CHECK.row("found", play.steps(1, 1), 2);
        CHECK.due("found", play.tree.answer(1), 400);
        CHECK.row("restarts", play.counts(1), 2, 0, 0, 1);
    }

    /** Two tasks have split without a path; only the first one makes a root. */
    private static void restartBelowWanted() {
        Play play = new Play();
        play.putAll(10, 20, 30, 40);
        play.begin(0, Play.PUT, 50, 500);
        play.begin(1, Play.PUT, 25, 250);
        play.steps(0, 3);
        play.putAll(5);
        CHECK.row("it splits the leaf again", play.steps(1, 3), 0, 0, 3);
        CHECK.row("task 0 posts from the root", play.task(0), 0, Play.SEARCH, 0, 30, 1);
        CHECK.row("task 1 posts from the root", play.task(1), 0, Play.SEARCH, 0, 20, 1);
        CHECK.row("right, and a new root", play.steps(0, 2), 0, 0);
        CHECK.row("is the place", play.task(0), 0, Play.SEARCH, 3, 30, 1);
        CHECK.row("the new root's page", play.page(3), 1, 1, -1, 999, -1, 1, -1);
        CHECK.row("the new root's entry", play.entries(3), 999, 0);
        CHECK.row("the root's level is not below", play.steps(1, 1), 0);
        CHECK.row("restart with key and level", play.task(1), 0, Play.SEARCH, 3, 20, 1);
        CHECK.row("counted", play.counts(1), 4, 0, 0, 1);
        CHECK.due("no second root", play.tree.root(), 3);
        CHECK.due("task 1 ends", play.end(1), -1);
        CHECK.row("posted first", play.entries(3), 20, 0, 999, 2);
        CHECK.due("task 0 ends", play.end(0), -1);
        CHECK.row("posted next", play.entries(3), 20, 0, 30, 2, 999, 1);
    }

    /** The new root's level is one above the old root's, and no lock is needed for it. */
    private static void newRootTwoTasks() {
        Play play = new Play();
        play.putAll(10, 20, 30, 40);
        play.begin(0, Play.PUT, 50, 500);
        play.steps(0, 3);
        play.begin(1, Play.PUT, 15, 150);
        play.steps(1, 2);
        CHECK.due("task 1 locks the root", play.tree.page(0, 6), 1);
        CHECK.row("task 0 makes a root above it", play.steps(0, 1), 0);
        CHECK.due("page 2", play.tree.root(), 2);
        CHECK.due("the lock stays", play.tree.page(0, 6), 1);
        CHECK.row("then LOCK, HOLD and the change", play.steps(0, 3), 0, 0, 2);
        CHECK.due("task 1 ends", play.end(1), -1);
        CHECK.row("no way to the right", play.counts(0), 7, 0, 0, 0);
    }

    private static void joinBelowWanted() {
        Play play = new Play();
        play.putAll(10, 20, 30, 40);
        play.begin(0, Play.PUT, 50, 500);
        play.steps(0, 3);
        play.remove(50);
        CHECK.due("page 1 is queued", play.tree.queued(), 1);
        play.begin(1, Play.JOIN, 0, 0);
        CHECK.row("wants level 1", play.task(1), 0, Play.SEARCH, 0, 999, 1);
        CHECK.row("right, then below the wanted level", play.steps(1, 2), 0, 2);
        CHECK.due("with 0", play.tree.answer(1), 0);
        CHECK.due("no root is made", play.tree.root(), 0);
    }
}
