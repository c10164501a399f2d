/** Promises 3 and 9: the change REMOVE, and the queue. */
public final class RemoveTest {
    private static final Check CHECK = new Check();

    public static void main(String[] args) {
        thereOrNot();
        smallNodes();
        fullQueue();
        CHECK.end();
    }

    private static void thereOrNot() {
        Play play = new Play();
        CHECK.due("from an empty leaf", play.remove(5), -1);
        play.putAll(10, 20, 30);
        CHECK.due("not there", play.remove(15), -1);
        CHECK.due("there", play.remove(20), 200);
        CHECK.row("the others stay", play.entries(0), 10, 100, 30, 300);
        CHECK.due("not there any more", play.remove(20), -1);
        CHECK.due("there", play.remove(30), 300);
        CHECK.due("there", play.remove(10), 100);
        CHECK.due("the root does not come into the queue", play.tree.queued(), 0);
        play.begin(0, Play.REMOVE, 1, 0);
        CHECK.row("search, lock, hold", play.steps(0, 3), 0, 0, 2);
    }

    private static void smallNodes() {
        Play play = new Play();
        play.putAll(10, 20, 30, 40, 50);
        play.remove(10);
        CHECK.due("two entries are not few", play.tree.queued(), 0);
        CHECK.due("not there", play.remove(50 + 1), -1);
        play.remove(20);
        CHECK.due("one entry", play.tree.queued(), 1);
        CHECK.due("not there", play.remove(20), -1);
        play.remove(30);
        CHECK.due("a page does not come again", play.tree.queued(), 1);
        CHECK.row("LOW and HIGH stay", play.page(0), 1, 0, -1, 30, 1, 0, -1);
        play.remove(40);
        CHECK.due("a second page", play.tree.queued(), 2);
        play.begin(0, Play.JOIN, 0, 0);
        CHECK.due("the first that came is the first that goes", play.tree.look(0, 3), 30);
        CHECK.due("one page is left", play.tree.queued(), 1);
        play.putAll(25);
        play.remove(25);
        CHECK.due("a page that is out of the queue comes again", play.tree.queued(), 2);
        play.begin(1, Play.JOIN, 0, 0);
        CHECK.due("behind the other", play.tree.look(1, 3), 999);
        play.begin(2, Play.JOIN, 0, 0);
        CHECK.due("as the last", play.tree.look(2, 3), 30);
    }

    /** Falling keys make leaves of two entries; a thirteenth small leaf is lost. */
    private static void fullQueue() {
        Play play = Trees.fallingKeys();
        for (int many = 1; many <= 12; many++) {
            play.remove(61 - 2 * many);
            CHECK.due("small leaves", play.tree.queued(), many);
        }
        int lost = 61 - 2 * 13;
        play.remove(lost);
        CHECK.due("at most 12", play.tree.queued(), 12);
        play.begin(0, Play.JOIN, 0, 0);
        CHECK.due("the first is taken", play.tree.look(0, 3), 999);
        CHECK.due("the lost one does not follow", play.tree.queued(), 11);
        play.remove(lost + 1);
        CHECK.due("it comes in when it gets smaller still", play.tree.queued(), 12);
        for (int task = 1; task < 4; task++) {
            play.begin(task, Play.JOIN, 0, 0);
            CHECK.due("in their order", play.tree.look(task, 3), 60 - 2 * task);
        }
    }
}
