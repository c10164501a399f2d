/** The boundary cases that the promises 1 to 10 name themselves, but for their exceptions (RefusedTest). */
public final class FaceEdgeTest {
    private static final Check CHECK = new Check();

    public static void main(String[] args) {
        newObject();
        joinWithoutKeyAndValue();
        goesOn();
        blocked();
        finishedIsIdle();
        comeIn();
        latestAnswer();
        lookIdle();
        lookMinusOne();
        lookPhase();
        lookSteps();
        lookBlocked();
        lookRight();
        lookRestarts();
        pageKinds();
        pageMinusTwo();
        pageLockedByNobody();
        entryFirstAndSecond();
        rootMoves();
        queuedCounts();
        underALeaf();
        underByChildrenAlone();
        CHECK.end();
    }

    private static void newObject() {
        CHECK.says("One empty leaf; all tasks idle");
        Play play = new Play();
        CHECK.row("page 0", play.page(0), 1, 0, -1, 999, -1, 0, -1);
        CHECK.due("23 pages are free", play.freePages(), 23);
        CHECK.due("root()", play.tree.root(), 0);
        CHECK.due("queued()", play.tree.queued(), 0);
        CHECK.due("under(0)", play.tree.under(0), 0);
        for (int task = 0; task < 4; task++) {
            CHECK.row("task " + task, play.task(task), 1, -1, -1, -1, -1);
            CHECK.row("task " + task, play.counts(task), 0, 0, 0, 0);
        }
        play.putAll(10, 20, 30, 40, 50);
        Play second = new Play();
        CHECK.row("another object is new too", second.page(0), 1, 0, -1, 999, -1, 0, -1);
        CHECK.due("its pages are free", second.freePages(), 23);
    }

    private static void joinWithoutKeyAndValue() {
        CHECK.says("A task begins an operation (a JOIN without key and value)");
        for (int key : new int[] {0, 20, 999, -1, 1000}) {
            Play play = Trees.twoLeaves();
            play.remove(50);
            play.begin(0, Play.JOIN, key, key);
            CHECK.row("its own key and level", play.task(0), 0, Play.SEARCH, 2, 999, 1);
            CHECK.due("joined", play.end(0), 1);
            CHECK.row("no value comes in", play.entries(0), 10, 100, 20, 200, 30, 300, 40, 400);
        }
    }

    private static void goesOn() {
        CHECK.says("0 it goes on");
        Play play = Trees.twoLeaves();
        play.begin(0, Play.PUT, 45, 450);
        for (int k = 0; k < 3; k++) {
            CHECK.row("step", play.steps(0, 1), 0);
            CHECK.due("not idle", play.tree.look(0, 0), 0);
        }
    }

    private static void blocked() {
        CHECK.says("1 BLOCKED (nothing has changed)");
        Play play = Trees.twoLeaves();
        play.begin(0, Play.PUT, 45, 450);
        play.begin(1, Play.PUT, 46, 460);
        play.steps(0, 3);
        play.steps(1, 2);
        int[] before = play.task(1);
        for (int k = 0; k < 5; k++) {
            CHECK.row("step", play.steps(1, 1), 1);
            CHECK.row("the task is as it was", play.task(1), before);
            CHECK.due("the lock is as it was", play.tree.page(1, 6), 0);
            CHECK.row("the node is as it was", play.entries(1), 40, 400, 50, 500);
        }
        CHECK.noElement("not finished", () -> play.tree.answer(1));
    }

    private static void finishedIsIdle() {
        CHECK.says("2 FINISHED, it is idle now");
        for (int operation = 0; operation < 4; operation++) {
            Play play = Trees.twoLeaves();
            play.begin(0, operation, 10, 7);
            int answer = 0;
            for (int k = 0; k < 9 && answer != 2; k++) {
                CHECK.due("not idle", play.tree.look(0, 0), 0);
                answer = play.step(0);
            }
            CHECK.due("finished", answer, 2);
            CHECK.due("idle", play.tree.look(0, 0), 1);
            CHECK.badState("no step more", () -> play.step(0));
        }
    }

    private static void comeIn() {
        CHECK.says("3 its PUT has come in, and it goes on to post");
        Play play = new Play();
        play.putAll(10, 20, 30, 40);
        play.begin(0, Play.PUT, 50, 500);
        CHECK.row("search, lock, hold", play.steps(0, 3), 0, 0, 3);
        CHECK.due("not idle", play.tree.look(0, 0), 0);
        CHECK.due("it has come in", play.find(50), 500);
        CHECK.due("it wants the next level", play.tree.look(0, 4), 1);
        Play room = new Play();
        room.putAll(10, 20, 30);
        room.begin(0, Play.PUT, 40, 400);
        CHECK.row("nothing to post", room.steps(0, 3), 0, 0, 2);
    }

    private static void latestAnswer() {
        CHECK.says("The answer of a task's latest operation that is finished");
        Play play = new Play();
        int[] operations = {Play.PUT, Play.FIND, Play.PUT, Play.REMOVE, Play.FIND, Play.JOIN};
        int[] answers = {-1, 70, 70, 80, -1, 0};
        int before = 0;
        for (int k = 0; k < operations.length; k++) {
            play.begin(2, operations[k], 5, k == 0 ? 70 : 80);
            if (k > 0) {
                CHECK.due("of the one before", play.tree.answer(2), before);
            }
            before = play.end(2);
            CHECK.due("of the finished one", before, answers[k]);
        }
        CHECK.noElement("another task has none", () -> play.tree.answer(1));
    }

    private static void lookIdle() {
        CHECK.says("0 whether it is idle (1 or 0)");
        Play play = new Play();
        for (int task = 0; task < 4; task++) {
            CHECK.due("idle", play.tree.look(task, 0), 1);
            play.begin(task, Play.PUT, 5, 0);
            CHECK.due("not idle", play.tree.look(task, 0), 0);
            play.end(task);
            CHECK.due("idle", play.tree.look(task, 0), 1);
        }
    }

    private static void lookMinusOne() {
        CHECK.says("(1 to 4: -1 when it is idle)");
        for (int operation = 0; operation < 4; operation++) {
            Play play = Trees.twoLeaves();
            play.remove(50);
            CHECK.row("before", play.task(0), 1, -1, -1, -1, -1);
            play.begin(0, operation, 40, 0);
            for (int what = 1; what < 5; what++) {
                CHECK.due("look(0, " + what + ") is not -1", play.tree.look(0, what) >= 0 ? 1 : 0, 1);
            }
            play.end(0);
            CHECK.row("after", play.task(0), 1, -1, -1, -1, -1);
            CHECK.due("5 is not -1", play.tree.look(0, 5) > 0 ? 1 : 0, 1);
            CHECK.due("6 to 8 are not -1",
                play.tree.look(0, 6) + play.tree.look(0, 7) + play.tree.look(0, 8), 0);
        }
    }

    private static void lookPhase() {
        CHECK.says("1 its phase (0 SEARCH, 1 LOCK, 2 HOLD)");
        Play play = new Play();
        play.begin(0, Play.PUT, 5, 50);
        for (int phase = 0; phase < 3; phase++) {
            CHECK.due("phase", play.tree.look(0, 1), phase);
            play.steps(0, 1);
        }
    }

    private static void lookSteps() {
        CHECK.says("5 how many steps it has done");
        Play play = new Play();
        int steps = 0;
        for (int operation = 1; operation >= 0; operation--) {
            play.begin(0, operation, 5, 50);
            CHECK.due("begin is no step", play.tree.look(0, 5), steps);
            while (play.tree.look(0, 0) == 0) {
                play.steps(0, 1);
                CHECK.due("steps", play.tree.look(0, 5), ++steps);
            }
        }
        CHECK.badState("a refused one", () -> play.step(0));
        CHECK.due("is no step", play.tree.look(0, 5), 4);
    }

    private static void lookBlocked() {
        CHECK.says("6 how many of them were BLOCKED");
        Play play = new Play();
        play.begin(0, Play.PUT, 5, 50);
        play.begin(1, Play.PUT, 6, 60);
        play.steps(0, 2);
        play.steps(1, 4);
        CHECK.row("three of four", play.counts(1), 4, 3, 0, 0);
        play.end(0);
        play.end(1);
        CHECK.row("three of six", play.counts(1), 6, 3, 0, 0);
        CHECK.row("none of task 0", play.counts(0), 3, 0, 0, 0);
    }

    private static void lookRight() {
        CHECK.says("7 how often it went to the RIGHT");
        Play play = new Play();
        play.putAll(10, 20, 30, 40);
        play.begin(1, Play.PUT, 45, 450);
        play.steps(1, 1);
        play.begin(0, Play.PUT, 50, 500);
        play.steps(0, 3);
        play.end(1);
        CHECK.due("in HOLD", play.tree.look(1, 7), 1);
        play.whole(1, Play.FIND, 45, 0);
        CHECK.due("in SEARCH, over all operations", play.tree.look(1, 7), 2);
        CHECK.due("not task 0", play.tree.look(0, 7), 0);
    }

    private static void lookRestarts() {
        CHECK.says("8 how many RESTARTs (all together)");
        Play play = Trees.twoLeaves();
        play.remove(50);
        play.begin(0, Play.PUT, 40, 7);
        play.begin(1, Play.FIND, 40, 0);
        play.steps(0, 2);
        play.join();
        play.end(0);
        play.end(1);
        CHECK.due("in HOLD", play.tree.look(0, 8), 1);
        CHECK.due("in SEARCH", play.tree.look(1, 8), 1);
        play.putAll(50);
        play.remove(40);
        play.begin(0, Play.FIND, 50, 0);
        play.begin(1, Play.FIND, 50, 0);
        play.join();
        play.end(0);
        play.end(1);
        CHECK.due("of two operations", play.tree.look(0, 8), 2);
        CHECK.due("of two operations", play.tree.look(1, 8), 2);
    }

    private static void pageKinds() {
        CHECK.says("0 what it is (0 FREE, 1 a node, 2 DEAD)");
        Play play = Trees.twoLeaves();
        play.remove(50);
        CHECK.due("a node", play.tree.page(1, 0), 1);
        CHECK.due("FREE", play.tree.page(3, 0), 0);
        play.begin(0, Play.FIND, 10, 0);
        play.join();
        CHECK.due("DEAD", play.tree.page(1, 0), 2);
        play.end(0);
        CHECK.due("FREE", play.tree.page(1, 0), 0);
    }

    private static void pageMinusTwo() {
        CHECK.says("-2 for 1 to 6 when it is no node");
        Play play = Trees.twoLeaves();
        play.remove(50);
        play.begin(0, Play.PUT, 45, 0);
        play.steps(0, 2);
        play.join();
        play.steps(0, 1);
        CHECK.row("DEAD, though it is locked", play.page(1), 2, -2, -2, -2, -2, -2, -2);
        CHECK.row("DEAD", play.page(2), 2, -2, -2, -2, -2, -2, -2);
        play.end(0);
        CHECK.row("a node again", play.page(0), 1, 0, -1, 30, 3, 3, -1);
        for (int page = 5; page < 24; page++) {
            CHECK.row("FREE", play.page(page), 0, -2, -2, -2, -2, -2, -2);
        }
        CHECK.row("FREE again", play.page(1), 0, -2, -2, -2, -2, -2, -2);
    }

    private static void pageLockedByNobody() {
        CHECK.says("6 who locks it (-1 for nobody)");
        for (int task = 0; task < 4; task++) {
            Play play = new Play();
            CHECK.due("nobody", play.tree.page(0, 6), -1);
            play.begin(task, Play.PUT, 5, 0);
            play.steps(task, 1);
            CHECK.due("nobody", play.tree.page(0, 6), -1);
            play.steps(task, 1);
            CHECK.due("task " + task, play.tree.page(0, 6), task);
            play.steps(task, 1);
            CHECK.due("nobody", play.tree.page(0, 6), -1);
        }
    }

    private static void entryFirstAndSecond() {
        CHECK.says("Entry k of a node: its key or bound (second false), its value or child");
        Play play = Trees.threeLeaves();
        CHECK.due("first key", play.tree.entry(0, 0, false), 10);
        CHECK.due("first value", play.tree.entry(0, 0, true), 100);
        CHECK.due("last key", play.tree.entry(0, 2, false), 30);
        CHECK.due("last value", play.tree.entry(0, 2, true), 300);
        CHECK.due("first bound", play.tree.entry(2, 0, false), 30);
        CHECK.due("first child", play.tree.entry(2, 0, true), 0);
        CHECK.due("last bound", play.tree.entry(2, 2, false), 999);
        CHECK.due("last child", play.tree.entry(2, 2, true), 3);
    }

    private static void rootMoves() {
        CHECK.says("The page of the ROOT");
        Play play = new Play();
        CHECK.due("at first", play.tree.root(), 0);
        play.putAll(10, 20, 30, 40);
        play.begin(0, Play.PUT, 50, 500);
        play.steps(0, 3);
        CHECK.due("before the new ROOT", play.tree.root(), 0);
        play.steps(0, 1);
        CHECK.due("with the new ROOT", play.tree.root(), 2);
        play.end(0);
        play.remove(50);
        play.join();
        CHECK.due("sunk", play.tree.root(), 0);
    }

    private static void queuedCounts() {
        CHECK.says("How many pages are in the queue");
        Play play = Trees.threeLeaves();
        CHECK.due("none", play.tree.queued(), 0);
        play.remove(80);
        CHECK.due("one", play.tree.queued(), 1);
        play.remove(10);
        play.remove(20);
        CHECK.due("two", play.tree.queued(), 2);
        play.begin(0, Play.JOIN, 0, 0);
        CHECK.due("a JOIN that begins takes one", play.tree.queued(), 1);
        play.begin(1, Play.JOIN, 0, 0);
        CHECK.due("none", play.tree.queued(), 0);
        play.begin(2, Play.JOIN, 0, 0);
        CHECK.due("still none", play.tree.queued(), 0);
    }

    private static void underALeaf() {
        CHECK.says("(a leaf: its own)");
        Play play = new Play();
        for (int many = 0; many < 4; many++) {
            CHECK.due("its own", play.tree.under(0), many);
            play.putAll(10 * many);
        }
        CHECK.due("its own", play.tree.under(0), 4);
    }

    private static void underByChildrenAlone() {
        CHECK.says("How many entries the leaves have that one comes to from a page by children alone");
        Play play = new Play();
        play.putAll(10, 20, 30, 40);
        play.begin(0, Play.PUT, 50, 500);
        play.steps(0, 3);
        CHECK.due("a leaf has no way to the right", play.tree.under(0), 3);
        play.steps(0, 1);
        CHECK.due("the ROOT has page 0 alone", play.tree.under(2), 3);
        play.end(0);
        CHECK.due("now both", play.tree.under(2), 5);
        Play full = Trees.full();
        CHECK.due("four levels", full.tree.under(21), 47);
        CHECK.due("three levels", full.tree.under(7), 27);
        CHECK.due("two levels", full.tree.under(19), 11);
        Play empty = Trees.twoLeaves();
        for (int key = 10; key <= 50; key += 10) {
            empty.remove(key);
        }
        CHECK.due("leaves without entries", empty.tree.under(2), 0);
    }
}
