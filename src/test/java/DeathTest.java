/** Promises 3 and 6: a node that dies, and when its page is free. */
public final class DeathTest {
    private static final Check CHECK = new Check();

    public static void main(String[] args) {
        waitsForThoseAtWork();
        doesNotWaitForLaterOnes();
        outOfTheQueue();
        usedAgain();
        CHECK.end();
    }

    /** Leaves 0: 30, 1: 40 50 under root 2; page 0 is queued. */
    private static Play readyToJoin() {
        Play play = new Play();
        play.putAll(10, 20, 30, 40, 50);
        play.remove(10);
        play.remove(20);
        return play;
    }

    private static void kinds(String what, Play play, int one, int two) {
        CHECK.due(what + ": page 1", play.tree.page(1, 0), one);
        CHECK.due(what + ": page 2", play.tree.page(2, 0), two);
    }

    private static void waitsForThoseAtWork() {
        Play play = readyToJoin();
        play.begin(0, Play.FIND, 30, 0);
        play.begin(1, Play.REMOVE, 700, 0);
        play.begin(2, Play.JOIN, 0, 0);
        CHECK.due("joined", play.end(2), 1);
        kinds("two are at work", play, 2, 2);
        CHECK.noElement("entry of a dead page", () -> play.tree.entry(1, 0, false));
        CHECK.noElement("under of a dead page", () -> play.tree.under(2));
        play.end(1);
        kinds("one is at work", play, 2, 2);
        play.end(0);
        kinds("all are finished", play, 0, 0);
    }

    private static void doesNotWaitForLaterOnes() {
        Play play = readyToJoin();
        play.begin(0, Play.FIND, 30, 0);
        CHECK.due("joined", play.join(), 1);
        play.begin(1, Play.PUT, 7, 70);
        play.begin(3, Play.PUT, 8, 80);
        kinds("dead", play, 2, 2);
        play.end(0);
        kinds("the later ones, and the joiner's next operation, do not count", play, 0, 0);

        Play again = readyToJoin();
        again.begin(0, Play.FIND, 30, 0);
        again.begin(1, Play.FIND, 30, 0);
        again.join();
        again.end(0);
        again.begin(0, Play.FIND, 40, 0);
        again.end(1);
        kinds("task 0 is finished with the operation that it had", again, 0, 0);
        again.end(0);

        Play alone = readyToJoin();
        alone.join();
        kinds("nobody else is at work", alone, 0, 0);
    }

    private static void outOfTheQueue() {
        Play play = readyToJoin();
        play.remove(50);
        CHECK.due("0 and 1 are queued", play.tree.queued(), 2);
        play.begin(0, Play.FIND, 30, 0);
        CHECK.due("joined", play.join(), 1);
        CHECK.due("page 1 is dead and out", play.tree.queued(), 0);
        kinds("dead", play, 2, 2);
        play.begin(1, Play.JOIN, 0, 0);
        CHECK.row("nothing to join", play.task(1), 0, Play.SEARCH, 0, 0, 0);
    }

    /** A dead page is not the free page with the least number; a free one is. */
    private static void usedAgain() {
        Play play = readyToJoin();
        play.begin(0, Play.FIND, 30, 0);
        play.join();
        play.putAll(60, 70);
        CHECK.row("page 3 is used", play.page(3), 1, 0, 50, 999, -1, 2, -1);
        CHECK.due("page 4 is the root", play.tree.root(), 4);
        kinds("still dead", play, 2, 2);
        play.end(0);
        play.putAll(80, 90, 100);
        CHECK.row("page 1 is used again", play.page(1), 1, 0, 80, 999, -1, 2, -1);
        CHECK.row("its entries", play.entries(1), 90, 900, 100, 1000);
        CHECK.row("the root", play.entries(4), 50, 0, 80, 3, 999, 1);
    }
}
