/** The boundary cases of a node that dies: when its page is free, and that it is out of the queue. */
public final class DeathEdgeTest {
    private static final Check CHECK = new Check();
    private static final String FREE_WHEN = "its page is free when all tasks that were not idle at that time "
        + "(but the one that joined) are finished with the operations that they had";

    public static void main(String[] args) {
        allWereIdle();
        onlyTheJoiner();
        whicheverIsTheLast();
        everyOperationCounts();
        laterOperationsDoNotCount();
        theOperationsThatTheyHad();
        theJoinersNextOperation();
        finishedOnlyAtTheEnd();
        twoDeaths();
        deadIsNoNode();
        outOfTheQueue();
        outOfTheMiddleOfTheQueue();
        rootOutOfTheQueue();
        aStaysInTheQueue();
        usedAgainAsNew();
        CHECK.end();
    }

    /** Leaf 1 has one key; a JOIN joins it into leaf 0, and leaf 1 and the ROOT 2 die. */
    private static Play readyToJoin() {
        Play play = Trees.twoLeaves();
        play.remove(50);
        return play;
    }

    private static void kinds(String what, Play play, int kind) {
        CHECK.due(what + ": page 1", play.tree.page(1, 0), kind);
        CHECK.due(what + ": page 2", play.tree.page(2, 0), kind);
    }

    private static void allWereIdle() {
        CHECK.says(FREE_WHEN);
        Play play = readyToJoin();
        CHECK.due("joined", play.join(), 1);
        kinds("nobody else was at work", play, 0);
    }

    private static void onlyTheJoiner() {
        CHECK.says("(but the one that joined)");
        for (int joiner = 0; joiner < 4; joiner++) {
            Play play = readyToJoin();
            CHECK.due("joined", play.whole(joiner, Play.JOIN, 0, 0), 1);
            kinds("free in the step of the JOIN", play, 0);
            Play other = readyToJoin();
            other.begin((joiner + 1) % 4, Play.FIND, 10, 0);
            CHECK.due("joined", other.whole(joiner, Play.JOIN, 0, 0), 1);
            kinds("another was at work", other, 2);
            other.end((joiner + 1) % 4);
            kinds("and is finished", other, 0);
        }
    }

    private static void whicheverIsTheLast() {
        CHECK.says(FREE_WHEN);
        int[][] orders = {{0, 1, 2}, {0, 2, 1}, {1, 0, 2}, {1, 2, 0}, {2, 0, 1}, {2, 1, 0}};
        for (int[] order : orders) {
            Play play = readyToJoin();
            for (int task = 0; task < 3; task++) {
                play.begin(task, Play.FIND, 10, 0);
            }
            CHECK.due("joined", play.join(), 1);
            for (int k = 0; k < 3; k++) {
                kinds("before task " + order[k], play, 2);
                play.end(order[k]);
            }
            kinds("after the last one", play, 0);
        }
    }

    /** A JOIN without a page can come nowhere, and counts all the same. */
    private static void everyOperationCounts() {
        CHECK.says("all tasks that were not idle at that time");
        for (int operation = 0; operation < 4; operation++) {
            Play play = readyToJoin();
            play.begin(3, Play.JOIN, 0, 0);
            play.begin(0, operation, 10, 100);
            CHECK.due("joined", play.end(3), 1);
            kinds("operation " + operation, play, 2);
            play.end(0);
            kinds("is finished", play, 0);
        }
        Play posting = Trees.leaves(4);
        posting.putAll(11);
        posting.remove(110);
        posting.begin(0, Play.PUT, 12, 120);
        CHECK.row("it has come in, and is to post", posting.steps(0, 4), 0, 0, 0, 3);
        CHECK.due("page 4 into page 3", posting.join(), 1);
        CHECK.due("the PUT counts", posting.tree.page(4, 0), 2);
        CHECK.row("to the parent", posting.steps(0, 2), 0, 0);
        CHECK.due("the PUT counts", posting.tree.page(4, 0), 2);
        CHECK.row("posted", posting.steps(0, 1), 2);
        CHECK.due("it is finished", posting.tree.page(4, 0), 0);
    }

    private static void laterOperationsDoNotCount() {
        CHECK.says("that were not idle at that time");
        Play play = readyToJoin();
        play.begin(0, Play.FIND, 10, 0);
        CHECK.due("joined", play.join(), 1);
        play.begin(1, Play.FIND, 10, 0);
        play.begin(2, Play.PUT, 45, 0);
        play.steps(2, 2);
        play.end(0);
        kinds("tasks 1 and 2 were idle at that time", play, 0);
    }

    private static void theOperationsThatTheyHad() {
        CHECK.says("are finished with the operations that they had");
        Play play = readyToJoin();
        play.begin(0, Play.FIND, 10, 0);
        play.begin(1, Play.FIND, 10, 0);
        CHECK.due("joined", play.join(), 1);
        play.end(0);
        play.begin(0, Play.FIND, 10, 0);
        kinds("task 1 is not finished", play, 2);
        play.end(1);
        kinds("task 0 has another one now", play, 0);
        CHECK.due("task 0 is at work", play.tree.look(0, 0), 0);
    }

    private static void theJoinersNextOperation() {
        CHECK.says("(but the one that joined)");
        Play play = readyToJoin();
        play.begin(0, Play.FIND, 10, 0);
        CHECK.due("joined", play.join(), 1);
        play.begin(3, Play.FIND, 10, 0);
        play.end(0);
        kinds("the joiner is at work again", play, 0);
    }

    private static void finishedOnlyAtTheEnd() {
        CHECK.says("are finished with the operations that they had");
        Play play = readyToJoin();
        play.begin(0, Play.PUT, 45, 450);
        play.steps(0, 1);
        CHECK.due("joined", play.join(), 1);
        CHECK.row("restart, search, lock", play.steps(0, 3), 0, 0, 0);
        kinds("it cannot come there any more, but is not finished", play, 2);
        CHECK.row("it splits the ROOT", play.steps(0, 1), 3);
        kinds("it is still to post", play, 2);
        CHECK.row("page 3 is the new leaf", play.page(3), 1, 0, 30, 999, -1, 2, -1);
        CHECK.due("finished", play.end(0), -1);
        kinds("now they are free", play, 0);
        CHECK.due("page 4 is the ROOT", play.tree.root(), 4);
    }

    /** Page 3 dies while task 0 is at work, page 1 while tasks 0 and 1 are. */
    private static void twoDeaths() {
        CHECK.says(FREE_WHEN);
        for (int first = 0; first < 2; first++) {
            Play play = Trees.leaves(4);
            play.begin(0, Play.FIND, 10, 0);
            play.remove(110);
            CHECK.due("page 4 into page 3", play.join(), 1);
            play.begin(1, Play.FIND, 10, 0);
            play.remove(10);
            play.remove(20);
            CHECK.due("page 1 into page 0", play.join(), 1);
            play.end(first);
            CHECK.due("page 4 waits for task 0", play.tree.page(4, 0), first == 0 ? 0 : 2);
            CHECK.due("page 1 waits for both", play.tree.page(1, 0), 2);
            play.end(1 - first);
            CHECK.due("page 4", play.tree.page(4, 0), 0);
            CHECK.due("page 1", play.tree.page(1, 0), 0);
        }
    }

    private static void deadIsNoNode() {
        CHECK.says("A node that DIES is DEAD");
        Play play = readyToJoin();
        play.begin(0, Play.FIND, 10, 0);
        CHECK.due("joined", play.join(), 1);
        CHECK.row("B", play.page(1), 2, -2, -2, -2, -2, -2, -2);
        CHECK.row("P", play.page(2), 2, -2, -2, -2, -2, -2, -2);
        CHECK.noElement("entry", () -> play.tree.entry(1, 0, false));
        CHECK.noElement("under", () -> play.tree.under(2));
    }

    private static void outOfTheQueue() {
        CHECK.says("and out of the queue");
        Play play = Trees.threeLeaves();
        play.remove(40);
        play.remove(50);
        play.remove(80);
        CHECK.due("page 1, page 3", play.tree.queued(), 2);
        CHECK.due("page 3 into page 1", play.join(), 1);
        CHECK.due("page 3 is out", play.tree.queued(), 0);
    }

    private static void outOfTheMiddleOfTheQueue() {
        CHECK.says("and out of the queue");
        Play play = Trees.leaves(4);
        play.remove(70);
        play.remove(80);
        play.remove(10);
        play.remove(20);
        play.remove(110);
        play.remove(40);
        play.remove(50);
        CHECK.due("pages 3, 0, 4, 1", play.tree.queued(), 4);
        CHECK.due("page 4 into page 3", play.join(), 1);
        CHECK.due("pages 0, 1", play.tree.queued(), 2);
        play.begin(0, Play.JOIN, 0, 0);
        play.begin(1, Play.JOIN, 0, 0);
        CHECK.due("page 0", play.tree.look(0, 3), 30);
        CHECK.due("page 1", play.tree.look(1, 3), 60);
    }

    /** Page 2 is queued with one entry, gets a second one, becomes the ROOT, and dies as such. */
    private static void rootOutOfTheQueue() {
        CHECK.says("and out of the queue");
        Play play = Trees.threeLevels();
        play.remove(10);
        play.remove(20);
        CHECK.due("page 1 into page 0", play.join(), 1);
        play.remove(30);
        play.remove(40);
        play.remove(50);
        play.begin(1, Play.JOIN, 0, 0);
        CHECK.row("JOIN of page 0", play.task(1), 0, Play.SEARCH, 7, 60, 1);
        play.remove(100);
        play.remove(110);
        play.begin(0, Play.JOIN, 0, 0);
        CHECK.row("JOIN of page 4", play.task(0), 0, Play.SEARCH, 7, 120, 1);
        play.remove(130);
        CHECK.due("page 5 into page 4", play.join(), 1);
        CHECK.due("page 3 into page 0", play.end(1), 1);
        CHECK.due("page 6, page 2", play.tree.queued(), 2);
        CHECK.due("page 6 into page 2", play.join(), 1);
        CHECK.due("page 2 is the ROOT", play.tree.root(), 2);
        CHECK.due("and queued", play.tree.queued(), 1);
        play.remove(70);
        play.remove(80);
        CHECK.due("page 4 into page 0", play.end(0), 1);
        CHECK.due("page 0 is the ROOT", play.tree.root(), 0);
        CHECK.due("page 2 has died", play.tree.page(2, 0), 0);
        CHECK.due("and is out of the queue", play.tree.queued(), 0);
    }

    private static void aStaysInTheQueue() {
        CHECK.says("and out of the queue");
        Play play = Trees.threeLeaves();
        play.remove(80);
        play.remove(40);
        play.remove(50);
        CHECK.due("page 3, page 1", play.tree.queued(), 2);
        CHECK.due("page 3 into page 1", play.join(), 1);
        CHECK.due("page 1 does not die", play.tree.queued(), 1);
        play.begin(0, Play.JOIN, 0, 0);
        CHECK.row("JOIN of page 1", play.task(0), 0, Play.SEARCH, 2, 999, 1);
    }

    private static void usedAgainAsNew() {
        CHECK.says("its page is free");
        Play play = readyToJoin();
        play.begin(0, Play.PUT, 40, 7);
        play.steps(0, 2);
        CHECK.due("joined", play.join(), 1);
        CHECK.row("task 0 locks the DEAD page", play.steps(0, 1), 0);
        CHECK.due("and ends elsewhere", play.end(0), 400);
        play.putAll(60);
        CHECK.row("page 1 is used again, without entries or lock of before", play.page(1), 1, 0, 30, 999, -1, 2, -1);
        CHECK.row("its entries", play.entries(1), 40, 7, 60, 600);
        CHECK.row("page 2 is used again", play.page(2), 1, 1, -1, 999, -1, 2, -1);
        play.remove(60);
        CHECK.due("a page that has died comes into the queue again", play.tree.queued(), 1);
    }
}
