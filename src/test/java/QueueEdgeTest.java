/** The boundary cases of the QUEUE, of REMOVE, and of a JOIN that begins. */
public final class QueueEdgeTest {
    private static final Check CHECK = new Check();

    public static void main(String[] args) {
        atMostTwelve();
        thirteenthIsLost();
        thirteenthIsLostByJoin();
        doesNotComeAgain();
        keepsItsPosition();
        doesNotComeAgainWhenFull();
        doesNotComeAgainByJoin();
        comesAgainWhenItIsOut();
        removeNotThere();
        fewerThanTwo();
        notTheRoot();
        rootAtTheTimeOfTheChange();
        takesTheFirst();
        levelAboveAnInnerNode();
        queueIsEmpty();
        queueIsEmptyOnlyAtBegin();
        firstStepIsJustFinished();
        pageIsTheRoot();
        pageBecomesTheRoot();
        CHECK.end();
    }

    /** Makes small leaves of the tree of falling keys, the first one with HIGH 999, then 58, 56 .. */
    private static void makeSmall(Play play, int from, int to) {
        for (int many = from; many <= to; many++) {
            play.remove(61 - 2 * many);
        }
    }

    private static void atMostTwelve() {
        CHECK.says("A QUEUE has pages of small nodes, at most 12");
        Play play = Trees.fallingKeys();
        CHECK.due("none", play.tree.queued(), 0);
        for (int many = 1; many <= 12; many++) {
            makeSmall(play, many, many);
            CHECK.due("queued()", play.tree.queued(), many);
        }
        makeSmall(play, 13, 13);
        CHECK.due("queued()", play.tree.queued(), 12);
    }

    private static void thirteenthIsLost() {
        CHECK.says("what comes when there are 12 is lost");
        Play play = Trees.fallingKeys();
        makeSmall(play, 1, 13);
        CHECK.due("the thirteenth leaf is small", play.tree.page(Trees.leafOf(play, 36), 5), 1);
        play.begin(0, Play.JOIN, 0, 0);
        CHECK.due("the first that came is still the first", play.tree.look(0, 3), 999);
        CHECK.due("what was lost does not follow", play.tree.queued(), 11);
        for (int task = 1; task < 3; task++) {
            play.begin(task, Play.JOIN, 0, 0);
            CHECK.due("in their order", play.tree.look(task, 3), 60 - 2 * task);
        }
        CHECK.due("nine are left", play.tree.queued(), 9);
        play.remove(36);
        CHECK.due("it comes when it becomes smaller", play.tree.queued(), 10);
    }

    /** The last two leaves are joined while twelve others are queued; their parent has one entry then. */
    private static void thirteenthIsLostByJoin() {
        CHECK.says("what comes when there are 12 is lost");
        Play play = Trees.fallingKeys();
        makeSmall(play, 1, 1);
        play.begin(0, Play.JOIN, 0, 0);
        CHECK.due("JOIN of the last leaf", play.tree.look(0, 3), 999);
        makeSmall(play, 3, 13);
        play.remove(31);
        play.remove(32);
        CHECK.due("eleven", play.tree.queued(), 11);
        play.remove(33);
        CHECK.due("twelve", play.tree.queued(), 12);
        CHECK.due("joined", play.end(0), 1);
        CHECK.row("page 6 has one entry", play.page(6), 1, 1, 56, 999, -1, 1, -1);
        CHECK.due("but was lost", play.tree.queued(), 12);
        play.begin(0, Play.JOIN, 0, 0);
        CHECK.row("the first is a leaf", play.task(0), 0, Play.SEARCH, 18, 56, 1);
        CHECK.due("what was lost does not follow", play.tree.queued(), 11);
    }

    private static void doesNotComeAgain() {
        CHECK.says("a page that is in it does not come again");
        Play play = Trees.twoLeaves();
        play.remove(10);
        play.remove(20);
        CHECK.due("one entry", play.tree.queued(), 1);
        play.remove(30);
        CHECK.due("no entry", play.tree.queued(), 1);
        play.putAll(10, 20);
        play.remove(10);
        CHECK.due("one entry once more", play.tree.queued(), 1);
        play.begin(0, Play.JOIN, 0, 0);
        CHECK.due("taken", play.tree.look(0, 3), 30);
        CHECK.due("it was in it once", play.tree.queued(), 0);
    }

    private static void keepsItsPosition() {
        CHECK.says("a page that is in it does not come again");
        Play play = Trees.threeLeaves();
        play.remove(80);
        play.remove(10);
        play.remove(20);
        play.remove(70);
        CHECK.due("page 3, page 0", play.tree.queued(), 2);
        play.begin(0, Play.JOIN, 0, 0);
        play.begin(1, Play.JOIN, 0, 0);
        CHECK.due("page 3 is still the first", play.tree.look(0, 3), 999);
        CHECK.due("page 0 is the second", play.tree.look(1, 3), 30);
    }

    private static void doesNotComeAgainWhenFull() {
        CHECK.says("a page that is in it does not come again");
        Play play = Trees.fallingKeys();
        makeSmall(play, 1, 12);
        play.remove(60);
        play.remove(58);
        CHECK.due("still twelve", play.tree.queued(), 12);
        for (int task = 0; task < 4; task++) {
            play.begin(task, Play.JOIN, 0, 0);
            CHECK.due("in their order", play.tree.look(task, 3), task == 0 ? 999 : 60 - 2 * task);
        }
        CHECK.due("eight are left", play.tree.queued(), 8);
    }

    /** Page 6 is queued with one entry, gets a second one, and has one again by a JOIN begun before. */
    private static void doesNotComeAgainByJoin() {
        CHECK.says("a page that is in it does not come again");
        Play play = Trees.threeLevels();
        play.remove(100);
        play.remove(110);
        play.begin(0, Play.JOIN, 0, 0);
        CHECK.row("JOIN of page 4", play.task(0), 0, Play.SEARCH, 7, 120, 1);
        play.remove(120);
        CHECK.due("another JOIN of page 4", play.join(), 1);
        CHECK.row("page 6 has one entry", play.entries(6), 999, 4);
        CHECK.due("and is queued", play.tree.queued(), 1);
        play.putAll(150, 160, 170);
        CHECK.row("it has two", play.entries(6), 150, 4, 999, 8);
        play.remove(140);
        CHECK.due("it is still queued", play.tree.queued(), 1);
        CHECK.due("the first JOIN ends", play.end(0), 1);
        CHECK.row("page 6 has one entry", play.entries(6), 999, 4);
        CHECK.due("and is queued once", play.tree.queued(), 1);
        play.begin(0, Play.JOIN, 0, 0);
        CHECK.row("JOIN of page 6", play.task(0), 0, Play.SEARCH, 7, 999, 2);
        CHECK.due("now the queue is empty", play.tree.queued(), 0);
    }

    private static void comesAgainWhenItIsOut() {
        CHECK.says("a page that is in it does not come again");
        Play play = Trees.threeLeaves();
        play.remove(80);
        play.begin(0, Play.JOIN, 0, 0);
        CHECK.due("taken out", play.tree.queued(), 0);
        play.remove(70);
        CHECK.due("a page that is not in it comes", play.tree.queued(), 1);
        play.begin(1, Play.JOIN, 0, 0);
        CHECK.row("both have it", play.task(1), 0, Play.SEARCH, 2, 999, 1);
    }

    private static void removeNotThere() {
        CHECK.says("if the key is not there, FINISHED with -1");
        Play play = Trees.threeLeaves();
        play.remove(80);
        play.begin(0, Play.JOIN, 0, 0);
        CHECK.due("one entry, and not there", play.remove(71), -1);
        CHECK.due("so its page does not come", play.tree.queued(), 0);
        CHECK.row("and its entry stays", play.entries(3), 70, 700);
        play.remove(70);
        play.begin(1, Play.JOIN, 0, 0);
        CHECK.due("no entry, and not there", play.remove(70), -1);
        CHECK.due("so its page does not come", play.tree.queued(), 0);
        CHECK.due("a bound is no key", Trees.threeLeaves().remove(999), -1);
    }

    private static void fewerThanTwo() {
        CHECK.says("if there are fewer than 2 then, and the node is not the ROOT, its page comes into the queue");
        int[] before = {2, 3, 4};
        for (int many : before) {
            Play play = Trees.threeLeaves();
            for (int key = 81; play.tree.page(3, 5) < many; key++) {
                play.putAll(key);
            }
            while (play.tree.page(3, 5) > 2) {
                play.remove(play.tree.entry(3, 0, false));
                CHECK.due("two or more are left", play.tree.queued(), 0);
            }
            play.remove(play.tree.entry(3, 1, false));
            CHECK.due("one is left", play.tree.queued(), 1);
        }
        Play none = Trees.threeLeaves();
        none.remove(80);
        none.begin(0, Play.JOIN, 0, 0);
        CHECK.due("the value", none.remove(70), 700);
        CHECK.due("none is left", none.tree.queued(), 1);
    }

    private static void notTheRoot() {
        CHECK.says("and the node is not the ROOT");
        Play play = new Play();
        play.putAll(10, 20);
        CHECK.due("one is left", play.remove(10), 100);
        CHECK.due("in the ROOT", play.tree.queued(), 0);
        CHECK.due("none is left", play.remove(20), 200);
        CHECK.due("in the ROOT", play.tree.queued(), 0);

        Play split = new Play();
        split.putAll(10, 20, 30, 40);
        split.begin(0, Play.PUT, 50, 500);
        split.steps(0, 3);
        CHECK.row("the ROOT has a RIGHT", split.page(0), 1, 0, -1, 30, 1, 3, -1);
        split.remove(10);
        split.remove(20);
        CHECK.due("one is left in the ROOT", split.tree.queued(), 0);
        split.remove(40);
        CHECK.due("one is left in its RIGHT, which is not the ROOT", split.tree.queued(), 1);
    }

    /** What is the ROOT is asked when the entry goes, not when the operation begins. */
    private static void rootAtTheTimeOfTheChange() {
        CHECK.says("and the node is not the ROOT");
        Play grown = new Play();
        grown.putAll(10, 20, 30, 40);
        grown.begin(0, Play.REMOVE, 40, 0);
        grown.steps(0, 1);
        grown.putAll(50);
        CHECK.due("page 2 is the ROOT now", grown.tree.root(), 2);
        CHECK.due("by the right link", grown.end(0), 400);
        CHECK.due("so page 1 comes", grown.tree.queued(), 1);

        Play sunk = Trees.twoLeaves();
        sunk.remove(50);
        sunk.remove(10);
        sunk.remove(20);
        sunk.begin(0, Play.REMOVE, 30, 0);
        sunk.steps(0, 2);
        sunk.begin(1, Play.JOIN, 0, 0);
        sunk.begin(2, Play.JOIN, 0, 0);
        CHECK.due("the queue is empty", sunk.tree.queued(), 0);
        CHECK.due("page 1 into page 0", sunk.end(1), 1);
        CHECK.due("page 0 is the ROOT now", sunk.tree.root(), 0);
        CHECK.due("the value", sunk.end(0), 300);
        CHECK.row("one entry is left", sunk.entries(0), 40, 400);
        CHECK.due("the ROOT does not come", sunk.tree.queued(), 0);
    }

    private static void takesTheFirst() {
        CHECK.says("takes the first page out of the queue; its key is that node's HIGH, its level one above that node's");
        Play play = Trees.threeLeaves();
        play.remove(40);
        play.remove(50);
        play.remove(80);
        play.remove(10);
        play.remove(20);
        int[] highs = {60, 999, 30};
        for (int task = 0; task < 3; task++) {
            CHECK.due("queued()", play.tree.queued(), 3 - task);
            play.begin(task, Play.JOIN, 0, 0);
            CHECK.row("task " + task, play.task(task), 0, Play.SEARCH, 2, highs[task], 1);
        }
        CHECK.due("queued()", play.tree.queued(), 0);
    }

    private static void levelAboveAnInnerNode() {
        CHECK.says("its level one above that node's");
        Play play = Trees.threeLevels();
        play.remove(130);
        play.join();
        CHECK.due("page 6 is queued", play.tree.queued(), 1);
        play.begin(0, Play.JOIN, 0, 0);
        CHECK.row("level 2", play.task(0), 0, Play.SEARCH, 7, 999, 2);
    }

    private static void queueIsEmpty() {
        CHECK.says("If the queue is empty, or the page is the ROOT, its key and level are 0");
        for (Play play : new Play[] {new Play(), Trees.twoLeaves(), Trees.threeLevels()}) {
            play.begin(0, Play.JOIN, 555, 555);
            CHECK.row("begun", play.task(0), 0, Play.SEARCH, play.tree.root(), 0, 0);
            CHECK.row("finished", play.steps(0, 1), 2);
            CHECK.due("with 0", play.tree.answer(0), 0);
            CHECK.row("one step", play.counts(0), 1, 0, 0, 0);
        }
    }

    private static void queueIsEmptyOnlyAtBegin() {
        CHECK.says("and its first step is just FINISHED with 0");
        Play play = Trees.twoLeaves();
        play.begin(0, Play.JOIN, 0, 0);
        play.remove(50);
        CHECK.due("a page comes too late", play.tree.queued(), 1);
        CHECK.row("finished", play.steps(0, 1), 2);
        CHECK.due("with 0", play.tree.answer(0), 0);
        CHECK.due("the page stays", play.tree.queued(), 1);
        CHECK.due("for the next one", play.whole(0, Play.JOIN, 0, 0), 1);
    }

    /** Its place is dead by then, but it does not look there. */
    private static void firstStepIsJustFinished() {
        CHECK.says("and its first step is just FINISHED with 0");
        Play play = Trees.twoLeaves();
        play.begin(0, Play.JOIN, 0, 0);
        play.remove(50);
        CHECK.due("joined", play.join(), 1);
        CHECK.due("the place is dead", play.tree.page(play.tree.look(0, 2), 0), 2);
        CHECK.row("finished", play.steps(0, 1), 2);
        CHECK.due("with 0", play.tree.answer(0), 0);
        CHECK.row("without a restart", play.counts(0), 1, 0, 0, 0);

        Play locked = new Play();
        locked.begin(1, Play.PUT, 0, 0);
        locked.steps(1, 2);
        CHECK.due("a locked ROOT does not matter", locked.whole(0, Play.JOIN, 0, 0), 0);
        CHECK.row("one step", locked.counts(0), 1, 0, 0, 0);
    }

    private static void pageIsTheRoot() {
        CHECK.says("or the page is the ROOT");
        Play play = Trees.threeLeaves();
        play.remove(80);
        play.remove(70);
        play.remove(10);
        play.remove(20);
        play.remove(30);
        play.remove(40);
        play.remove(50);
        CHECK.due("page 3, page 0, page 1", play.tree.queued(), 3);
        CHECK.due("page 3 into page 1", play.join(), 1);
        play.begin(0, Play.JOIN, 0, 0);
        play.remove(60);
        CHECK.due("page 1 is still queued", play.tree.queued(), 1);
        CHECK.due("page 1 into page 0", play.end(0), 1);
        CHECK.due("page 1 is dead and out", play.tree.queued(), 0);
        CHECK.due("page 0 is the ROOT", play.tree.root(), 0);

        Play root = Trees.twoLeaves();
        root.remove(50);
        root.remove(10);
        root.remove(20);
        CHECK.due("page 1 into page 0", root.join(), 1);
        CHECK.due("page 0 is the ROOT", root.tree.root(), 0);
        CHECK.due("and queued", root.tree.queued(), 1);
        root.begin(0, Play.JOIN, 0, 0);
        CHECK.due("it is taken out", root.tree.queued(), 0);
        CHECK.row("key and level", root.task(0), 0, Play.SEARCH, 0, 0, 0);
        CHECK.row("finished", root.steps(0, 1), 2);
        CHECK.due("with 0", root.tree.answer(0), 0);
        CHECK.row("the ROOT is as it was", root.entries(0), 30, 300, 40, 400);
    }

    /** It was not the ROOT when the JOIN began: the JOIN has a key and a level, and looks for them. */
    private static void pageBecomesTheRoot() {
        CHECK.says("or the page is the ROOT");
        Play play = Trees.twoLeaves();
        play.remove(50);
        play.remove(10);
        play.remove(20);
        play.begin(1, Play.JOIN, 0, 0);
        play.begin(0, Play.JOIN, 0, 0);
        CHECK.row("JOIN of page 0", play.task(0), 0, Play.SEARCH, 2, 30, 1);
        CHECK.due("page 1 into page 0", play.end(1), 1);
        CHECK.due("page 0 is the ROOT", play.tree.root(), 0);
        CHECK.row("restart, below the wanted level", play.steps(0, 2), 0, 2);
        CHECK.due("with 0", play.tree.answer(0), 0);
        CHECK.row("counts", play.counts(0), 2, 0, 0, 1);
    }
}
