/** Promise 3: the change JOIN. */
public final class JoinTest {
    private static final Check CHECK = new Check();

    public static void main(String[] args) {
        oneOfTwoAndRootDies();
        lastWithTheOneBefore();
        middleWithTheNext();
        shareToTheLeft();
        shareToTheRight();
        shareOfFullLeaves();
        joinOfInnerNodes();
        shareOfInnerNodes();
        blockedByLocks();
        blockedBeforeHigh();
        notItsBound();
        pageDead();
        noChild();
        butOneEntry();
        rootWithRight();
        CHECK.end();
    }

    private static void oneOfTwoAndRootDies() {
        Play play = new Play();
        play.putAll(10, 20, 30, 40, 50);
        play.remove(50);
        play.begin(0, Play.JOIN, 0, 0);
        CHECK.row("search, lock, hold", play.steps(0, 3), 0, 0, 2);
        CHECK.due("joined", play.tree.answer(0), 1);
        CHECK.row("page 0", play.page(0), 1, 0, -1, 999, -1, 4, -1);
        CHECK.row("B's entries behind A's", play.entries(0), 10, 100, 20, 200, 30, 300, 40, 400);
        CHECK.due("its child is the root", play.tree.root(), 0);
        CHECK.due("page 1 is free", play.tree.page(1, 0), 0);
        CHECK.due("page 2 is free", play.tree.page(2, 0), 0);
        CHECK.due("queued()", play.tree.queued(), 0);
        CHECK.row("idle", play.task(0), 1, -1, -1, -1, -1);
    }

    private static void lastWithTheOneBefore() {
        Play play = Trees.threeLeaves();
        play.remove(80);
        CHECK.due("joined", play.join(), 1);
        CHECK.row("page 1", play.page(1), 1, 0, 30, 999, -1, 4, -1);
        CHECK.row("its entries", play.entries(1), 40, 400, 50, 500, 60, 600, 70, 700);
        CHECK.row("the root", play.entries(2), 30, 0, 999, 1);
        CHECK.due("two entries: it stays the root", play.tree.root(), 2);
        CHECK.due("page 3 is free", play.tree.page(3, 0), 0);
        CHECK.due("P is unlocked", play.tree.page(2, 6), -1);
    }

    private static void middleWithTheNext() {
        Play play = Trees.threeLeaves();
        play.remove(40);
        play.remove(50);
        CHECK.due("joined", play.join(), 1);
        CHECK.row("page 1", play.page(1), 1, 0, 30, 999, -1, 3, -1);
        CHECK.row("its entries", play.entries(1), 60, 600, 70, 700, 80, 800);
        CHECK.row("page 0 is left alone", play.page(0), 1, 0, -1, 30, 1, 3, -1);
        CHECK.row("the root", play.entries(2), 30, 0, 999, 1);
        CHECK.due("page 3 is free", play.tree.page(3, 0), 0);
    }

    private static void shareToTheLeft() {
        Play play = Trees.threeLeaves();
        play.putAll(41);
        play.remove(10);
        play.remove(20);
        CHECK.due("shared", play.join(), 1);
        CHECK.row("three of five", play.entries(0), 30, 300, 40, 400, 41, 410);
        CHECK.row("page 0", play.page(0), 1, 0, -1, 41, 1, 3, -1);
        CHECK.row("two of five", play.entries(1), 50, 500, 60, 600);
        CHECK.row("page 1", play.page(1), 1, 0, 41, 60, 3, 2, -1);
        CHECK.row("the root", play.entries(2), 41, 0, 60, 1, 999, 3);
        CHECK.due("nothing is queued", play.tree.queued(), 0);
    }

    private static void shareToTheRight() {
        Play five = Trees.threeLeaves();
        five.putAll(45);
        five.remove(80);
        CHECK.due("shared", five.join(), 1);
        CHECK.row("three of five", five.page(1), 1, 0, 30, 50, 3, 3, -1);
        CHECK.row("two of five", five.entries(3), 60, 600, 70, 700);
        CHECK.row("page 3", five.page(3), 1, 0, 50, 999, -1, 2, -1);
        CHECK.row("the root", five.entries(2), 30, 0, 50, 1, 999, 3);

        Play six = Trees.threeLeaves();
        six.putAll(45);
        six.remove(80);
        six.begin(0, Play.JOIN, 0, 0);
        six.putAll(75);
        CHECK.due("shared", six.end(0), 1);
        CHECK.row("three of six", six.entries(1), 40, 400, 45, 450, 50, 500);
        CHECK.row("and three", six.entries(3), 60, 600, 70, 700, 75, 750);
    }

    /** Both have become full since; only the border moves, down to the last key of A. */
    private static void shareOfFullLeaves() {
        Play play = Trees.threeLeaves();
        play.remove(80);
        play.begin(0, Play.JOIN, 0, 0);
        play.putAll(75, 80, 85, 45);
        play.remove(60);
        play.putAll(46);
        CHECK.due("shared", play.end(0), 1);
        CHECK.row("page 1", play.page(1), 1, 0, 30, 50, 3, 4, -1);
        CHECK.row("page 3", play.page(3), 1, 0, 50, 999, -1, 4, -1);
        CHECK.row("the root", play.entries(2), 30, 0, 50, 1, 999, 3);
    }

    private static void joinOfInnerNodes() {
        Play play = Trees.threeLevels();
        play.remove(70);
        play.remove(80);
        play.remove(40);
        CHECK.due("page 3 is small", play.tree.queued(), 1);
        CHECK.due("page 3 into page 1", play.join(), 1);
        CHECK.row("page 2", play.entries(2), 30, 0, 90, 1);
        CHECK.due("two entries are not one", play.tree.queued(), 0);
        play.remove(130);
        CHECK.due("page 5 into page 4", play.join(), 1);
        CHECK.row("page 6", play.entries(6), 999, 4);
        CHECK.due("P has one entry: page 6 is queued", play.tree.queued(), 1);
        play.begin(0, Play.JOIN, 0, 0);
        CHECK.row("JOIN of page 6", play.task(0), 0, Play.SEARCH, 7, 999, 2);
        CHECK.row("search, lock, hold", play.steps(0, 3), 0, 0, 2);
        CHECK.due("joined", play.tree.answer(0), 1);
        CHECK.row("page 2", play.page(2), 1, 1, -1, 999, -1, 3, -1);
        CHECK.row("its entries", play.entries(2), 30, 0, 90, 1, 999, 4);
        CHECK.due("is the root", play.tree.root(), 2);
        CHECK.due("page 6 is free", play.tree.page(6, 0), 0);
        CHECK.due("page 7 is free", play.tree.page(7, 0), 0);
        CHECK.due("under the root", play.tree.under(2), 10);
        CHECK.due("found", play.find(140), 1400);
    }

    private static void shareOfInnerNodes() {
        Play play = Trees.threeLevels();
        play.putAll(15, 25);
        CHECK.row("page 2 has four entries", play.entries(2), 20, 0, 30, 8, 60, 1, 90, 3);
        play.remove(130);
        CHECK.due("page 5 into page 4", play.join(), 1);
        CHECK.due("page 6 is queued", play.tree.queued(), 1);
        CHECK.due("shared", play.join(), 1);
        CHECK.row("three of five", play.entries(2), 20, 0, 30, 8, 60, 1);
        CHECK.row("page 2", play.page(2), 1, 1, -1, 60, 6, 3, -1);
        CHECK.row("two of five", play.entries(6), 90, 3, 999, 4);
        CHECK.row("page 6", play.page(6), 1, 1, 60, 999, -1, 2, -1);
        CHECK.row("the root", play.entries(7), 60, 2, 999, 6);
        CHECK.due("found", play.find(90), 900);
    }

    private static void blockedByLocks() {
        for (int key : new int[] {45, 75}) {
            Play play = Trees.threeLeaves();
            play.remove(80);
            play.begin(0, Play.JOIN, 0, 0);
            play.begin(1, Play.PUT, key, 1);
            play.steps(1, 3);
            CHECK.row("search, lock, then blocked", play.steps(0, 4), 0, 0, 1, 1);
            CHECK.row("stays in HOLD", play.task(0), 0, Play.HOLD, 2, 999, 1);
            CHECK.due("P stays locked", play.tree.page(2, 6), 0);
            CHECK.row("counts", play.counts(0), 4, 2, 0, 0);
            CHECK.due("a FIND goes through", play.find(70), 700);
            CHECK.due("the PUT ends", play.end(1), -1);
            CHECK.row("the JOIN ends", play.steps(0, 1), 2);
            CHECK.due("with 1", play.tree.answer(0), 1);
            CHECK.due("P is unlocked", play.tree.page(2, 6), -1);
        }
        Play other = Trees.threeLeaves();
        other.remove(80);
        other.begin(1, Play.PUT, 15, 1);
        other.steps(1, 3);
        CHECK.due("another node's lock does not matter", other.join(), 1);
    }

    /** Page 1 is locked and its HIGH is not its bound: blocked first, and then finished with 0. */
    private static void blockedBeforeHigh() {
        Play play = Trees.threeLeaves();
        play.putAll(45);
        play.begin(1, Play.PUT, 55, 550);
        CHECK.row("page 1 splits", play.steps(1, 4), 0, 0, 0, 3);
        play.remove(80);
        play.begin(2, Play.PUT, 46, 460);
        play.steps(2, 3);
        CHECK.due("page 1 is locked", play.tree.page(1, 6), 2);
        play.begin(0, Play.JOIN, 0, 0);
        CHECK.row("blocked", play.steps(0, 3), 0, 0, 1);
        play.end(2);
        CHECK.row("finished", play.steps(0, 1), 2);
        CHECK.due("with 0", play.tree.answer(0), 0);
    }

    private static void notItsBound() {
        Play left = Trees.threeLeaves();
        left.putAll(45);
        left.begin(1, Play.PUT, 55, 550);
        left.steps(1, 4);
        left.remove(80);
        CHECK.due("A's HIGH is not its bound", left.join(), 0);
        CHECK.due("the page is out of the queue", left.tree.queued(), 0);
        CHECK.row("nothing has changed", left.entries(2), 30, 0, 60, 1, 999, 3);
        CHECK.due("P is unlocked", left.tree.page(2, 6), -1);

        Play right = Trees.threeLeaves();
        right.putAll(90, 100);
        right.begin(1, Play.PUT, 110, 1100);
        right.steps(1, 4);
        right.remove(40);
        right.remove(50);
        CHECK.due("B's HIGH is not its bound", right.join(), 0);
        CHECK.row("nothing has changed", right.entries(2), 30, 0, 60, 1, 999, 3);
        right.end(1);
        right.remove(60);
        CHECK.due("posted: it is joined", right.join(), 1);
    }

    private static void pageDead() {
        Play play = Trees.threeLeaves();
        play.remove(80);
        play.begin(0, Play.JOIN, 0, 0);
        play.remove(40);
        play.remove(50);
        CHECK.due("page 1 is joined with page 3, which dies", play.join(), 1);
        CHECK.due("page 3 is dead", play.tree.page(3, 0), 2);
        CHECK.row("so there is nothing to join", play.steps(0, 3), 0, 0, 2);
        CHECK.due("with 0", play.tree.answer(0), 0);
        CHECK.due("page 3 is free", play.tree.page(3, 0), 0);
        CHECK.due("P is unlocked", play.tree.page(2, 6), -1);
    }

    /** Page 1 is small before its split from page 0 is posted: no node has it as a child yet. */
    private static void noChild() {
        Play play = new Play();
        play.putAll(10, 20, 30, 40);
        play.begin(0, Play.PUT, 50, 500);
        play.steps(0, 3);
        play.begin(1, Play.PUT, 60, 600);
        play.steps(1, 2);
        play.remove(40);
        CHECK.due("page 1 is queued", play.tree.queued(), 1);
        play.begin(2, Play.JOIN, 0, 0);
        CHECK.row("a root over page 0 alone", play.steps(0, 1), 0);
        CHECK.row("the JOIN goes right", play.steps(2, 1), 0);
        CHECK.row("and finds a level that is below", play.steps(2, 1), 2);
        play.remove(50);
        CHECK.due("page 1, now empty, is queued again", play.tree.queued(), 1);
        CHECK.due("page 1 is no child of P", play.join(), 0);
        CHECK.row("P is as it was", play.entries(2), 999, 0);
        CHECK.due("P is unlocked", play.tree.page(2, 6), -1);
        play.end(0);
        play.end(1);
        CHECK.row("posted at last", play.entries(2), 30, 0, 999, 1);
    }

    private static void butOneEntry() {
        Play play = Trees.threeLevels();
        play.remove(130);
        CHECK.due("page 5 into page 4", play.join(), 1);
        CHECK.row("page 6 has one entry", play.entries(6), 999, 4);
        play.begin(0, Play.JOIN, 0, 0);
        play.remove(100);
        play.remove(110);
        play.remove(120);
        CHECK.due("page 4 is queued", play.tree.queued(), 1);
        play.begin(1, Play.JOIN, 0, 0);
        CHECK.row("JOIN of page 4", play.task(1), 0, Play.SEARCH, 7, 999, 1);
        CHECK.row("P has but one entry", play.steps(1, 4), 0, 0, 0, 2);
        CHECK.due("with 0", play.tree.answer(1), 0);
        CHECK.due("P does not come into the queue by that", play.tree.queued(), 0);
        CHECK.due("P is unlocked", play.tree.page(6, 6), -1);
        CHECK.due("page 6 is joined", play.end(0), 1);
    }

    /** A root that has split, but has no root above it yet, does not sink: its page is queued. */
    private static void rootWithRight() {
        Play play = new Play();
        play.putAll(10, 20, 30, 40, 50, 60, 70, 80, 90, 100, 110, 120, 130);
        play.begin(0, Play.PUT, 140, 1400);
        play.steps(0, 7);
        CHECK.row("root 2 has a RIGHT", play.page(2), 1, 1, -1, 90, 6, 3, -1);
        play.remove(10);
        play.remove(20);
        play.remove(40);
        CHECK.due("page 1 into page 0", play.join(), 1);
        CHECK.row("root 2", play.entries(2), 60, 0, 90, 3);
        CHECK.due("nothing is queued", play.tree.queued(), 0);
        play.remove(70);
        play.remove(80);
        CHECK.due("page 3 into page 0", play.join(), 1);
        CHECK.row("root 2", play.page(2), 1, 1, -1, 90, 6, 1, -1);
        CHECK.due("is the root still", play.tree.root(), 2);
        CHECK.due("and queued", play.tree.queued(), 1);
        play.begin(1, Play.JOIN, 0, 0);
        CHECK.row("JOIN of the root's page", play.task(1), 0, Play.SEARCH, 2, 0, 0);
        CHECK.row("is finished at once", play.steps(1, 1), 2);
        CHECK.due("with 0", play.tree.answer(1), 0);
        CHECK.due("out of the queue", play.tree.queued(), 0);
        CHECK.due("the PUT ends", play.end(0), -1);
        CHECK.row("its root", play.entries(play.tree.root()), 90, 2, 999, 6);
    }
}
