import java.util.List;

/** The boundary cases of a step in the phases SEARCH, LOCK and HOLD, up to the change. */
public final class StepEdgeTest {
    private static final Check CHECK = new Check();

    public static void main(String[] args) {
        searchDead();
        searchLow();
        searchHigh();
        searchTwiceRight();
        searchAboveWanted();
        joinBelowWanted();
        rootsLevelIsTheWanted();
        rootsLevelIsAboveTheWanted();
        rootsLevelIsBelowTheWanted();
        newRootWithoutPage();
        newRootWhenPageIsDead();
        findAtWanted();
        othersAtWanted();
        lockedByAnother();
        otherwiseLocked();
        holdDead();
        holdLow();
        holdHigh();
        holdHighTwice();
        unlockedAfterTheChange();
        notUnlockedWhenBlocked();
        CHECK.end();
    }

    private static void searchDead() {
        CHECK.says("If this is DEAD, or its LOW is not below the key: RESTART");
        for (int operation = 0; operation < 3; operation++) {
            for (int down = 0; down < 2; down++) {
                Play play = Trees.twoLeaves();
                play.remove(50);
                play.begin(0, operation, 40, 7);
                play.steps(0, down);
                CHECK.due("joined", play.join(), 1);
                CHECK.due("the place is DEAD", play.tree.page(play.tree.look(0, 2), 0), 2);
                CHECK.row("a restart", play.steps(0, 1), 0);
                CHECK.row("from the ROOT", play.task(0), 0, Play.SEARCH, 0, 40, 0);
                CHECK.row("counted", play.counts(0), down + 1, 0, 0, 1);
                CHECK.due("the value", play.end(0), 400);
            }
        }
    }

    /** Tasks 0, 1 and 2 search at page 1, whose LOW goes from 30 to 50. */
    private static Play lowMoves(int operation) {
        Play play = new Play();
        play.putAll(10, 20, 30, 40, 50, 60, 70);
        play.remove(10);
        play.remove(20);
        int[] keys = {49, 50, 51};
        for (int task = 0; task < 3; task++) {
            play.begin(task, operation, keys[task], 7);
            play.steps(task, operation == Play.FIND ? 1 : 2);
            CHECK.due("the place", play.tree.look(task, 2), 1);
        }
        CHECK.due("shared", play.join(), 1);
        CHECK.row("page 1", play.page(1), 1, 0, 50, 999, -1, 2, -1);
        return play;
    }

    private static void searchLow() {
        CHECK.says("or its LOW is not below the key: RESTART");
        Play play = lowMoves(Play.FIND);
        CHECK.row("LOW above the key", play.steps(0, 1), 0);
        CHECK.row("a restart", play.task(0), 0, Play.SEARCH, 2, 49, 0);
        CHECK.row("LOW is the key", play.steps(1, 1), 0);
        CHECK.row("a restart", play.task(1), 0, Play.SEARCH, 2, 50, 0);
        CHECK.row("LOW just below the key", play.steps(2, 1), 2);
        CHECK.due("not there", play.tree.answer(2), -1);
        int[] restarts = {1, 1, 0};
        for (int task = 0; task < 3; task++) {
            CHECK.row("counts", play.counts(task), 2, 0, 0, restarts[task]);
        }
        CHECK.due("not there", play.end(0), -1);
        CHECK.due("there", play.end(1), 500);
    }

    /** Leaf 0 has split at 30, and the new page is not posted. */
    private static Play unposted() {
        Play play = new Play();
        play.putAll(10, 20, 30, 40);
        play.begin(3, Play.PUT, 50, 500);
        play.steps(3, 3);
        return play;
    }

    private static void searchHigh() {
        CHECK.says("If its HIGH is below the key: the place is its RIGHT");
        int[] keys = {29, 30, 31};
        for (int task = 0; task < 3; task++) {
            Play play = unposted();
            play.begin(task, Play.FIND, keys[task], 0);
            boolean right = keys[task] == 31;
            CHECK.row("key " + keys[task], play.steps(task, 1), right ? 0 : 2);
            CHECK.row("counts", play.counts(task), 1, 0, right ? 1 : 0, 0);
            if (right) {
                CHECK.row("the place", play.task(task), 0, Play.SEARCH, 1, 31, 0);
            } else {
                CHECK.due("the answer", play.tree.answer(task), keys[task] == 30 ? 300 : -1);
            }
        }
    }

    private static void searchTwiceRight() {
        CHECK.says("If its HIGH is below the key: the place is its RIGHT");
        Play play = unposted();
        play.begin(0, Play.PUT, 60, 600);
        play.end(0);
        play.begin(0, Play.PUT, 70, 700);
        play.end(0);
        play.begin(0, Play.PUT, 80, 800);
        CHECK.row("right, and a split", play.steps(0, 4), 0, 0, 0, 3);
        play.begin(1, Play.FIND, 80, 0);
        CHECK.row("two steps to the right", play.steps(1, 3), 0, 0, 2);
        CHECK.due("found", play.tree.answer(1), 800);
        CHECK.row("counted", play.counts(1), 3, 0, 2, 0);
    }

    private static void searchAboveWanted() {
        CHECK.says("If its level is above the wanted one: it is noted in the path, and the place is the child for the key");
        Play play = Trees.threeLevels();
        play.putAll(150, 160);
        play.begin(0, Play.PUT, 170, 1700);
        int[] places = {7, 6, 5};
        for (int k = 0; k < 3; k++) {
            CHECK.row("place", play.task(0), 0, Play.SEARCH, places[k], 170, 0);
            play.steps(0, 1);
        }
        CHECK.row("at the wanted one", play.task(0), 0, Play.LOCK, 5, 170, 0);
        CHECK.row("split", play.steps(0, 2), 0, 3);
        CHECK.row("page 6 was noted for level 1", play.task(0), 0, Play.SEARCH, 6, 150, 1);

        Play high = Trees.leaves(6);
        high.putAll(180, 190, 200);
        CHECK.row("page 6 is full", high.page(6), 1, 1, 90, 999, -1, 4, -1);
        high.putAll(210, 220);
        high.begin(0, Play.PUT, 230, 2300);
        CHECK.row("the leaf splits", high.steps(0, 5), 0, 0, 0, 0, 3);
        CHECK.row("page 6 was noted for level 1", high.task(0), 0, Play.SEARCH, 6, 210, 1);
        CHECK.row("page 6 splits", high.steps(0, 3), 0, 0, 0);
        CHECK.row("page 7 was noted for level 2", high.task(0), 0, Play.SEARCH, 7, 180, 2);
    }

    private static void joinBelowWanted() {
        CHECK.says("If its level is below the wanted one: a JOIN is FINISHED with 0");
        Play play = unposted();
        play.begin(0, Play.REMOVE, 50, 0);
        play.end(0);
        play.begin(0, Play.JOIN, 0, 0);
        CHECK.row("wants level 1", play.task(0), 0, Play.SEARCH, 0, 999, 1);
        CHECK.row("right, then finished", play.steps(0, 2), 0, 2);
        CHECK.due("with 0", play.tree.answer(0), 0);
        CHECK.due("no new ROOT", play.tree.root(), 0);
        CHECK.row("no restart", play.counts(0), 4 + 2, 0, 2, 0);
        CHECK.due("the page is out of the queue", play.tree.queued(), 0);
    }

    private static void rootsLevelIsTheWanted() {
        CHECK.says("others RESTART, if the ROOT's level is not below the wanted one");
        Play play = unposted();
        play.begin(0, Play.PUT, 15, 150);
        play.end(0);
        play.begin(0, Play.PUT, 16, 160);
        CHECK.row("a second split without a ROOT above", play.steps(0, 3), 0, 0, 3);
        CHECK.row("task 3 makes the ROOT", play.steps(3, 2), 0, 0);
        CHECK.due("its level is the wanted one", play.tree.page(play.tree.root(), 1), 1);
        int root = play.tree.root();
        CHECK.row("a restart", play.steps(0, 1), 0);
        CHECK.row("from the ROOT", play.task(0), 0, Play.SEARCH, root, 16, 1);
        CHECK.due("counted", play.tree.look(0, 8), 1);
        CHECK.due("no second ROOT", play.tree.root(), root);
        CHECK.due("posted", play.end(0), -1);
        CHECK.due("posted", play.end(3), -1);
        CHECK.row("both", play.entries(root), 16, 0, 30, 2, 999, 1);
    }

    private static void rootsLevelIsAboveTheWanted() {
        CHECK.says("others RESTART, if the ROOT's level is not below the wanted one");
        Play play = unposted();
        for (int key = 60; play.tree.page(play.tree.root(), 1) < 2; key += 10) {
            play.whole(0, Play.PUT, key, 10 * key);
        }
        int root = play.tree.root();
        CHECK.row("task 3 wants level 1, at a leaf", play.task(3), 0, Play.SEARCH, 0, 30, 1);
        CHECK.row("a restart", play.steps(3, 1), 0);
        CHECK.row("from the ROOT", play.task(3), 0, Play.SEARCH, root, 30, 1);
        CHECK.due("counted", play.tree.look(3, 8), 1);
        CHECK.due("no other ROOT", play.tree.root(), root);
        CHECK.due("posted", play.end(3), -1);
        CHECK.due("page 1 is posted", play.tree.entry(Trees.parentOf(play, 1), 1, true), 1);
        CHECK.due("with HIGH of page 0 before it", play.tree.entry(Trees.parentOf(play, 1), 0, false), 30);
    }

    private static void rootsLevelIsBelowTheWanted() {
        CHECK.says("otherwise a new node, one level above the ROOT, with LOW -1, HIGH 999, no RIGHT, and one entry, 999 and the ROOT's page, becomes the ROOT and the place");
        Play play = unposted();
        CHECK.due("the ROOT is a leaf", play.tree.page(play.tree.root(), 1), 0);
        CHECK.row("one step", play.steps(3, 1), 0);
        CHECK.due("the free page with the least number", play.tree.root(), 2);
        CHECK.row("the new node", play.page(2), 1, 1, -1, 999, -1, 1, -1);
        CHECK.row("its entry", play.entries(2), 999, 0);
        CHECK.row("the place, still in SEARCH", play.task(3), 0, Play.SEARCH, 2, 30, 1);
        CHECK.row("no restart", play.counts(3), 4 * 3 + 4, 0, 0, 0);

        Play high = Trees.leaves(4);
        high.putAll(120, 130);
        high.begin(0, Play.PUT, 140, 1400);
        high.steps(0, 7);
        CHECK.row("wants level 2 over ROOT 2", high.task(0), 0, Play.SEARCH, 2, 90, 2);
        CHECK.row("one step", high.steps(0, 1), 0);
        CHECK.row("the new node", high.page(7), 1, 2, -1, 999, -1, 1, -1);
        CHECK.row("its entry", high.entries(7), 999, 2);
        CHECK.row("the place", high.task(0), 0, Play.SEARCH, 7, 90, 2);
    }

    /** Pages 21 to 23 go to a leaf, its parent and the root, which have split. */
    private static Play rootHasSplit() {
        Play play = Trees.fullInnerNodes();
        play.putAll(41);
        play.begin(0, Play.PUT, 42, 420);
        CHECK.row("down, and three splits", play.steps(0, 11), 0, 0, 0, 0, 3, 0, 0, 0, 0, 0, 0);
        CHECK.due("no page is free", play.freePages(), 0);
        CHECK.row("to post above the ROOT", play.task(0), 0, Play.SEARCH, 7, 180, 3);
        return play;
    }

    private static void newRootWithoutPage() {
        CHECK.says("without a free page: FINISHED with the answer of the PUT");
        Play play = rootHasSplit();
        int[] root = play.page(7);
        int[] entries = play.entries(7);
        CHECK.row("finished", play.steps(0, 1), 2);
        CHECK.due("the answer of the PUT", play.tree.answer(0), -1);
        CHECK.due("the ROOT is as it was", play.tree.root(), 7);
        CHECK.row("its page too", play.page(7), root);
        CHECK.row("its entries too", play.entries(7), entries);
        CHECK.row("idle", play.task(0), 1, -1, -1, -1, -1);
        for (int key : new int[] {10, 42, 180, 190, 380}) {
            CHECK.due("all keys are found", play.find(key), 10 * key);
        }
    }

    /** The only page that is no node is page 18, which is DEAD, not free, until task 1 is finished. */
    private static void newRootWhenPageIsDead() {
        CHECK.says("without a free page: FINISHED with the answer of the PUT");
        for (int free = 0; free < 2; free++) {
            Play play = Trees.fullInnerNodes();
            play.begin(1, Play.FIND, 10, 0);
            play.remove(11);
            play.remove(10);
            CHECK.due("page 18 into page 0", play.join(), 1);
            play.putAll(131);
            play.begin(0, Play.PUT, 132, 1320);
            CHECK.row("down, and three splits", play.steps(0, 11), 0, 0, 0, 0, 3, 0, 0, 0, 0, 0, 0);
            CHECK.due("page 18 is DEAD", play.tree.page(18, 0), 2);
            CHECK.due("no page is free", play.freePages(), 0);
            if (free == 1) {
                play.end(1);
            }
            CHECK.row("finished, or a new ROOT", play.steps(0, 1), free == 1 ? 0 : 2);
            CHECK.due("the ROOT", play.tree.root(), free == 1 ? 18 : 7);
            CHECK.due("page 18", play.tree.page(18, 0), free == 1 ? 1 : 2);
            CHECK.due("the answer of the PUT", free == 1 ? play.end(0) : play.tree.answer(0), -1);
            CHECK.due("it is there", play.find(132), 1320);
        }
    }

    private static void findAtWanted() {
        CHECK.says("FIND is FINISHED, with the value of its key, or -1");
        Play play = Trees.threeLeaves();
        int[] keys = {0, 10, 11, 30, 39, 40, 60, 61, 80, 81, 999};
        int[] values = {-1, 100, -1, 300, -1, 400, 600, -1, 800, -1, -1};
        for (int k = 0; k < keys.length; k++) {
            play.begin(0, Play.FIND, keys[k], 0);
            CHECK.row("find " + keys[k], play.steps(0, 2), 0, 2);
            CHECK.due("find " + keys[k], play.tree.answer(0), values[k]);
        }
        play.begin(1, Play.PUT, 15, 0);
        play.steps(1, 3);
        CHECK.due("page 0 is locked", play.tree.page(0, 6), 1);
        CHECK.due("a FIND takes no lock", play.find(10), 100);
    }

    private static void othersAtWanted() {
        CHECK.says("for all others the phase is LOCK");
        for (int operation = 1; operation < 3; operation++) {
            Play play = new Play();
            play.begin(0, operation, 5, 0);
            CHECK.row("one step", play.steps(0, 1), 0);
            CHECK.row("LOCK", play.task(0), 0, Play.LOCK, 0, 5, 0);
            CHECK.due("not locked yet", play.tree.page(0, 6), -1);
        }
        Play small = Trees.twoLeaves();
        small.remove(50);
        small.begin(0, Play.JOIN, 0, 0);
        CHECK.row("one step", small.steps(0, 1), 0);
        CHECK.row("LOCK", small.task(0), 0, Play.LOCK, 2, 999, 1);
        Play post = unposted();
        post.steps(3, 2);
        CHECK.row("LOCK", post.task(3), 0, Play.LOCK, 2, 30, 1);
    }

    /** All but the two counts of the blocked task must be as before. */
    private static void blockedStep(Play play, int task) {
        int steps = play.tree.look(task, 5);
        int blocked = play.tree.look(task, 6);
        List<Integer> before = play.everything();
        CHECK.row("blocked", play.steps(task, 1), 1);
        List<Integer> after = play.everything();
        CHECK.due("a step", play.tree.look(task, 5), steps + 1);
        CHECK.due("that was blocked", play.tree.look(task, 6), blocked + 1);
        int first = 2 + 9 * task + 5;
        after.set(first, steps);
        after.set(first + 1, blocked);
        CHECK.same("nothing has changed", before, after);
    }

    private static void lockedByAnother() {
        CHECK.says("if the node at its place is locked by another task: BLOCKED");
        for (int locker = 0; locker < 4; locker++) {
            Play play = Trees.twoLeaves();
            int other = (locker + 1) % 4;
            play.begin(locker, Play.PUT, 15, 150);
            play.begin(other, Play.REMOVE, 10, 0);
            play.steps(locker, 3);
            play.steps(other, 2);
            blockedStep(play, other);
            blockedStep(play, other);
            CHECK.due("it keeps its place", play.tree.look(other, 2), 0);
            play.end(locker);
            CHECK.row("not blocked any more", play.steps(other, 2), 0, 2);
        }
    }

    private static void otherwiseLocked() {
        CHECK.says("Otherwise it is locked, and the phase is HOLD");
        Play play = Trees.twoLeaves();
        play.begin(0, Play.PUT, 15, 150);
        play.begin(1, Play.PUT, 45, 450);
        play.steps(0, 3);
        play.steps(1, 3);
        CHECK.row("HOLD", play.task(0), 0, Play.HOLD, 0, 15, 0);
        CHECK.row("HOLD", play.task(1), 0, Play.HOLD, 1, 45, 0);
        CHECK.due("page 0", play.tree.page(0, 6), 0);
        CHECK.due("another node's lock does not matter", play.tree.page(1, 6), 1);
        CHECK.due("nor has anything come in", play.tree.under(2), 5);
    }

    private static void holdDead() {
        CHECK.says("If the node is DEAD, or its LOW is not below the key: it is unlocked, RESTART");
        for (int operation = 1; operation < 3; operation++) {
            Play play = Trees.twoLeaves();
            play.remove(50);
            play.begin(0, operation, 40, 7);
            play.begin(1, operation, 40, 8);
            play.steps(0, 2);
            play.steps(1, 2);
            CHECK.due("joined", play.join(), 1);
            CHECK.due("the place is DEAD", play.tree.page(1, 0), 2);
            CHECK.row("locked", play.steps(0, 1), 0);
            CHECK.row("HOLD", play.task(0), 0, Play.HOLD, 1, 40, 0);
            CHECK.row("unlocked, restart", play.steps(0, 1), 0);
            CHECK.row("from the ROOT", play.task(0), 0, Play.SEARCH, 0, 40, 0);
            CHECK.due("counted", play.tree.look(0, 8), 1);
            CHECK.row("it is unlocked: the other one locks it", play.steps(1, 2), 0, 0);
            CHECK.due("counted", play.tree.look(1, 8), 1);
            CHECK.due("the value", play.end(0), 400);
        }
    }

    private static void holdLow() {
        CHECK.says("or its LOW is not below the key: it is unlocked, RESTART");
        Play play = lowMoves(Play.REMOVE);
        for (int task = 0; task < 3; task++) {
            CHECK.row("it locks", play.steps(task, 1), 0);
            CHECK.due("page 1 is locked", play.tree.page(1, 6), task);
            CHECK.row("and looks", play.steps(task, 1), task == 2 ? 2 : 0);
            CHECK.due("page 1 is unlocked", play.tree.page(1, 6), -1);
            CHECK.row("counts", play.counts(task), 4, 0, 0, task == 2 ? 0 : 1);
        }
        CHECK.row("LOW above the key", play.task(0), 0, Play.SEARCH, 2, 49, 0);
        CHECK.row("LOW is the key", play.task(1), 0, Play.SEARCH, 2, 50, 0);
        CHECK.due("LOW just below the key: removed, had it been there", play.tree.answer(2), -1);
        CHECK.due("not there", play.end(0), -1);
        CHECK.due("there", play.end(1), 500);
    }

    /** Tasks 0, 1 and 2 want to lock leaf 0 when it splits at 30. */
    private static void holdHigh() {
        CHECK.says("If its HIGH is below the key: it is unlocked, the place is its RIGHT, the phase is LOCK");
        Play play = new Play();
        play.putAll(10, 20, 30, 40);
        int[] keys = {29, 30, 31};
        for (int task = 0; task < 3; task++) {
            play.begin(task, Play.REMOVE, keys[task], 0);
            play.steps(task, 1);
        }
        play.begin(3, Play.PUT, 50, 500);
        play.steps(3, 3);
        for (int task = 0; task < 3; task++) {
            CHECK.row("lock and look", play.steps(task, 2), 0, task == 2 ? 0 : 2);
            CHECK.due("page 0 is unlocked", play.tree.page(0, 6), -1);
            CHECK.due("to the right", play.tree.look(task, 7), task == 2 ? 1 : 0);
        }
        CHECK.due("HIGH above the key", play.tree.answer(0), -1);
        CHECK.due("HIGH is the key", play.tree.answer(1), 300);
        CHECK.row("HIGH below the key", play.task(2), 0, Play.LOCK, 1, 31, 0);
        CHECK.due("page 1 is not locked yet", play.tree.page(1, 6), -1);
        CHECK.row("lock and look", play.steps(2, 2), 0, 2);
        CHECK.due("not there", play.tree.answer(2), -1);
    }

    private static void holdHighTwice() {
        CHECK.says("If its HIGH is below the key: it is unlocked, the place is its RIGHT, the phase is LOCK");
        Play play = new Play();
        play.putAll(10, 20, 30, 40);
        play.begin(0, Play.REMOVE, 80, 0);
        play.begin(1, Play.REMOVE, 40, 0);
        play.steps(0, 1);
        play.putAll(50, 60, 70, 80);
        CHECK.row("lock page 0, right, lock page 1", play.steps(0, 3), 0, 0, 0);
        CHECK.due("page 1 is locked", play.tree.page(1, 6), 0);
        play.steps(1, 2);
        blockedStep(play, 1);
        CHECK.row("right, lock page 3, look", play.steps(0, 3), 0, 0, 2);
        CHECK.due("the value", play.tree.answer(0), 800);
        CHECK.row("counts", play.counts(0), 7, 0, 2, 0);
        CHECK.due("page 1 is unlocked", play.end(1), 400);
    }

    private static void unlockedAfterTheChange() {
        CHECK.says("Otherwise the operation's CHANGE is made, and (unless it is BLOCKED) the node is unlocked");
        Play play = new Play();
        play.putAll(10, 20, 30);
        for (int key : new int[] {30, 40}) {
            play.begin(0, Play.PUT, key, 1);
            play.steps(0, 2);
            CHECK.due("locked", play.tree.page(0, 6), 0);
            CHECK.row("finished", play.steps(0, 1), 2);
            CHECK.due("after a PUT", play.tree.page(0, 6), -1);
        }
        play.begin(0, Play.PUT, 50, 500);
        CHECK.row("a split", play.steps(0, 3), 0, 0, 3);
        CHECK.due("after a split", play.tree.page(0, 6), -1);
        CHECK.due("the new node too", play.tree.page(1, 6), -1);
        CHECK.row("up to HOLD at the new ROOT", play.steps(0, 3), 0, 0, 0);
        CHECK.due("locked", play.tree.page(2, 6), 0);
        CHECK.row("finished", play.steps(0, 1), 2);
        CHECK.due("after a POST", play.tree.page(2, 6), -1);
        play.whole(0, Play.REMOVE, 5, 0);
        CHECK.due("after a REMOVE of nothing", play.tree.page(0, 6), -1);
        play.whole(0, Play.REMOVE, 50, 0);
        CHECK.due("after a REMOVE", play.tree.page(1, 6), -1);

        Play split = Trees.leaves(4);
        split.putAll(120, 130);
        split.begin(0, Play.PUT, 140, 1400);
        CHECK.row("a leaf and page 2 split", split.steps(0, 7), 0, 0, 0, 3, 0, 0, 0);
        CHECK.due("after a split by a POST", split.tree.page(2, 6), -1);
        CHECK.due("the new node too", split.tree.page(6, 6), -1);
    }

    private static void notUnlockedWhenBlocked() {
        CHECK.says("(unless it is BLOCKED)");
        Play play = Trees.threeLeaves();
        play.remove(80);
        play.begin(0, Play.JOIN, 0, 0);
        play.begin(1, Play.PUT, 75, 750);
        play.begin(2, Play.JOIN, 0, 0);
        play.steps(1, 3);
        play.steps(0, 2);
        blockedStep(play, 0);
        blockedStep(play, 0);
        CHECK.row("HOLD", play.task(0), 0, Play.HOLD, 2, 999, 1);
        CHECK.due("page 2 is still locked", play.tree.page(2, 6), 0);
        play.end(1);
        CHECK.row("not blocked any more", play.steps(0, 1), 2);
        CHECK.due("page 2 is unlocked", play.tree.page(2, 6), -1);
    }
}
