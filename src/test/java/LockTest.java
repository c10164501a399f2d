/** Promise 3: a step in the phases LOCK and HOLD, up to the change. */
public final class LockTest {
    private static final Check CHECK = new Check();

    public static void main(String[] args) {
        blocked();
        blockedChangesNothing();
        rightWhenHeld();
        lowWhenHeld();
        deadWhenHeld();
        CHECK.end();
    }

    private static void blocked() {
        Play play = new Play();
        play.begin(0, Play.PUT, 7, 70);
        play.begin(1, Play.REMOVE, 7, 0);
        play.steps(0, 1);
        CHECK.row("LOCK", play.task(0), 0, Play.LOCK, 0, 7, 0);
        CHECK.due("not locked yet", play.tree.page(0, 6), -1);
        play.steps(0, 1);
        CHECK.row("HOLD", play.task(0), 0, Play.HOLD, 0, 7, 0);
        CHECK.due("locked by 0", play.tree.page(0, 6), 0);
        CHECK.row("a search needs no lock", play.steps(1, 1), 0);
        CHECK.row("blocked", play.steps(1, 2), 1, 1);
        CHECK.row("stays in LOCK", play.task(1), 0, Play.LOCK, 0, 7, 0);
        CHECK.row("counts", play.counts(1), 3, 2, 0, 0);
        CHECK.row("0 is finished", play.steps(0, 1), 2);
        CHECK.due("unlocked", play.tree.page(0, 6), -1);
        CHECK.row("1 locks and removes", play.steps(1, 2), 0, 2);
        CHECK.due("the value", play.tree.answer(1), 70);
        CHECK.due("unlocked", play.tree.page(0, 6), -1);
    }

    private static void blockedChangesNothing() {
        Play play = new Play();
        play.putAll(1, 2);
        play.begin(0, Play.PUT, 7, 70);
        play.begin(1, Play.REMOVE, 7, 0);
        play.steps(0, 2);
        play.steps(1, 1);
        java.util.List<Integer> before = play.all();
        CHECK.row("blocked", play.steps(1, 1), 1);
        java.util.List<Integer> after = play.all();
        int others = 0;
        for (int k = 0; k < before.size(); k++) {
            others += before.get(k).equals(after.get(k)) ? 0 : 1;
        }
        CHECK.due("only two counts have changed", others, 2);
    }

    private static void rightWhenHeld() {
        Play play = new Play();
        play.putAll(10, 20, 30, 40);
        play.begin(0, Play.PUT, 50, 500);
        play.begin(1, Play.PUT, 45, 450);
        play.steps(1, 1);
        CHECK.row("0 splits", play.steps(0, 3), 0, 0, 3);
        CHECK.row("1 locks page 0 and finds that it must go right", play.steps(1, 2), 0, 0);
        CHECK.row("phase LOCK at page 1", play.task(1), 0, Play.LOCK, 1, 45, 0);
        CHECK.due("page 0 is unlocked", play.tree.page(0, 6), -1);
        CHECK.row("counted", play.counts(1), 3, 0, 1, 0);
        CHECK.row("lock, hold", play.steps(1, 2), 0, 2);
        CHECK.row("in its place", play.entries(1), 40, 400, 45, 450, 50, 500);
    }

    private static void lowWhenHeld() {
        Play play = new Play();
        play.putAll(10, 20, 30, 40, 50, 60, 70);
        play.remove(10);
        play.remove(20);
        play.begin(0, Play.REMOVE, 40, 0);
        play.steps(0, 2);
        CHECK.row("LOCK at page 1", play.task(0), 0, Play.LOCK, 1, 40, 0);
        CHECK.due("40 and 50 go over to page 0", play.join(), 1);
        CHECK.row("locks", play.steps(0, 1), 0);
        CHECK.due("page 1 is locked", play.tree.page(1, 6), 0);
        CHECK.row("restart", play.steps(0, 1), 0);
        CHECK.row("from the root", play.task(0), 0, Play.SEARCH, 2, 40, 0);
        CHECK.due("page 1 is unlocked", play.tree.page(1, 6), -1);
        CHECK.row("counted", play.counts(0), 4, 0, 0, 1);
        CHECK.due("the value", play.end(0), 400);
        CHECK.row("page 0", play.entries(0), 30, 300, 50, 500);
    }

    /** A dead page is locked like a node; its death is seen only in HOLD. */
    private static void deadWhenHeld() {
        Play play = new Play();
        play.putAll(10, 20, 30, 40, 50);
        play.remove(10);
        play.remove(20);
        play.begin(0, Play.PUT, 45, 450);
        play.begin(1, Play.REMOVE, 50, 0);
        play.steps(0, 2);
        play.steps(1, 2);
        CHECK.due("joined", play.join(), 1);
        CHECK.row("page 1 is dead", play.page(1), 2, -2, -2, -2, -2, -2, -2);
        CHECK.row("0 locks it", play.steps(0, 1), 0);
        CHECK.row("1 is blocked there", play.steps(1, 1), 1);
        CHECK.row("0 restarts", play.steps(0, 1), 0);
        CHECK.row("from the new root", play.task(0), 0, Play.SEARCH, 0, 45, 0);
        CHECK.row("1 locks and restarts", play.steps(1, 2), 0, 0);
        CHECK.row("counts of 0", play.counts(0), 4, 0, 0, 1);
        CHECK.row("counts of 1", play.counts(1), 5, 1, 0, 1);
        CHECK.due("0 ends", play.end(0), -1);
        CHECK.due("1 ends", play.end(1), 500);
        CHECK.row("page 0", play.entries(0), 30, 300, 40, 400, 45, 450);
        CHECK.due("page 1 is free", play.tree.page(1, 0), 0);
    }
}
