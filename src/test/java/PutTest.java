/** Promise 3: the changes PUT, SPLIT and POST. */
public final class PutTest {
    private static final Check CHECK = new Check();

    public static void main(String[] args) {
        newAndOldKeys();
        splitOfLeaf();
        splitAmongKeys();
        splitOfInnerNode();
        postByPath();
        postWithoutPathAfterRestart();
        postBesideUnpostedPage();
        postBesideUnpostedPageFirst();
        CHECK.end();
    }

    private static void newAndOldKeys() {
        Play play = new Play();
        CHECK.due("a new key", play.put(20, 1), -1);
        CHECK.due("an old key", play.put(20, 2), 1);
        CHECK.due("and again", play.put(20, -7), 2);
        CHECK.due("any int", play.put(20, Integer.MIN_VALUE), -7);
        CHECK.due("found", play.find(20), Integer.MIN_VALUE);
        play.put(0, 5);
        play.put(999, 6);
        play.put(10, 7);
        CHECK.row("by rising keys", play.entries(0), 0, 5, 10, 7, 20, Integer.MIN_VALUE, 999, 6);
        CHECK.due("an old key in a full leaf", play.put(10, 8), 7);
        CHECK.row("one page", play.page(0), 1, 0, -1, 999, -1, 4, -1);
    }

    private static void splitOfLeaf() {
        Play play = new Play();
        play.putAll(10, 20, 30, 40);
        play.begin(0, Play.PUT, 50, 500);
        CHECK.row("it comes in", play.steps(0, 3), 0, 0, 3);
        CHECK.noElement("no answer yet", () -> play.tree.answer(0));
        CHECK.row("the old node", play.page(0), 1, 0, -1, 30, 1, 3, -1);
        CHECK.row("its entries", play.entries(0), 10, 100, 20, 200, 30, 300);
        CHECK.row("the new node", play.page(1), 1, 0, 30, 999, -1, 2, -1);
        CHECK.row("its entries", play.entries(1), 40, 400, 50, 500);
        CHECK.row("to post", play.task(0), 0, Play.SEARCH, 0, 30, 1);
        CHECK.row("the steps of the post", play.steps(0, 4), 0, 0, 0, 2);
        CHECK.due("the answer of the PUT", play.tree.answer(0), -1);
        CHECK.row("the root", play.entries(2), 30, 0, 999, 1);
        CHECK.due("is page 2", play.tree.root(), 2);
        play.putAll(60, 70, 80);
        CHECK.row("a middle node", play.page(1), 1, 0, 30, 60, 3, 3, -1);
        CHECK.row("a last node", play.page(3), 1, 0, 60, 999, -1, 2, -1);
        CHECK.row("the root", play.entries(2), 30, 0, 60, 1, 999, 3);
        play.putAll(11, 12);
        CHECK.row("RIGHT is handed on", play.page(4), 1, 0, 12, 30, 1, 2, -1);
        CHECK.row("the first node", play.page(0), 1, 0, -1, 12, 4, 3, -1);
        CHECK.row("the root", play.entries(2), 12, 0, 30, 4, 60, 1, 999, 3);
    }

    private static void splitAmongKeys() {
        Play low = new Play();
        low.putAll(20, 30, 40, 50, 10);
        CHECK.row("the new key is the first", low.entries(0), 10, 100, 20, 200, 30, 300);
        Play third = new Play();
        third.putAll(10, 20, 40, 50, 30);
        CHECK.row("the new key is the third", third.page(0), 1, 0, -1, 30, 1, 3, -1);
        Play fourth = new Play();
        fourth.putAll(10, 20, 30, 50, 40);
        CHECK.row("the new key is the fourth", fourth.entries(1), 40, 400, 50, 500);
    }

    private static void splitOfInnerNode() {
        Play play = new Play();
        play.putAll(10, 20, 30, 40, 50, 60, 70, 80, 90, 100, 110, 120, 130);
        CHECK.row("a full root", play.entries(2), 30, 0, 60, 1, 90, 3, 999, 4);
        play.begin(0, Play.PUT, 140, 1400);
        CHECK.row("down, and the leaf splits", play.steps(0, 4), 0, 0, 0, 3);
        CHECK.row("to post page 5", play.task(0), 0, Play.SEARCH, 2, 120, 1);
        // Only the step that brings the PUT in answers 3; here the task just goes on.
        CHECK.row("the root splits", play.steps(0, 3), 0, 0, 0);
        CHECK.row("page 2", play.page(2), 1, 1, -1, 90, 6, 3, -1);
        CHECK.row("its entries", play.entries(2), 30, 0, 60, 1, 90, 3);
        CHECK.row("page 6", play.page(6), 1, 1, 90, 999, -1, 2, -1);
        CHECK.row("its entries", play.entries(6), 120, 4, 999, 5);
        CHECK.row("to post page 6", play.task(0), 0, Play.SEARCH, 2, 90, 2);
        CHECK.due("the root is still page 2", play.tree.root(), 2);
        CHECK.due("under(2) has no way to the right", play.tree.under(2), 9);
        CHECK.due("140 is there all the same", play.find(140), 1400);
        CHECK.row("a new root, and the post", play.steps(0, 4), 0, 0, 0, 2);
        CHECK.row("page 7", play.page(7), 1, 2, -1, 999, -1, 2, -1);
        CHECK.row("its entries", play.entries(7), 90, 2, 999, 6);
        CHECK.due("root()", play.tree.root(), 7);
        CHECK.due("under the root", play.tree.under(7), 14);
        CHECK.due("the answer of the PUT", play.tree.answer(0), -1);
    }

    /** The path keeps the page at which the task went down, though the root is another one now. */
    private static void postByPath() {
        Play play = new Play();
        play.putAll(10, 20, 30, 40, 50, 60, 70, 80, 90, 100, 110, 120, 130);
        play.begin(0, Play.PUT, 145, 1450);
        play.begin(1, Play.PUT, 5, 50);
        play.steps(0, 2);
        play.steps(1, 2);
        play.putAll(140);
        CHECK.due("another root", play.tree.root(), 7);
        play.putAll(150, 160);
        CHECK.row("lock and right", play.steps(0, 4), 0, 0, 0, 3);
        CHECK.row("from the page in its path", play.task(0), 0, Play.SEARCH, 2, 145, 1);
        CHECK.row("over the right link", play.steps(0, 1), 0);
        CHECK.row("to page 6", play.task(0), 0, Play.SEARCH, 6, 145, 1);
        CHECK.row("and in", play.steps(0, 3), 0, 0, 2);
        CHECK.row("page 6", play.entries(6), 120, 4, 145, 5, 999, 8);
        CHECK.row("counts", play.counts(0), 10, 0, 2, 0);
        CHECK.due("task 1 ends", play.end(1), -1);
    }

    /** A restart forgets the path, so the post begins at the root. */
    private static void postWithoutPathAfterRestart() {
        Play play = new Play();
        play.putAll(10, 20, 30, 40, 50);
        play.remove(10);
        play.remove(20);
        play.begin(0, Play.PUT, 45, 450);
        play.steps(0, 1);
        play.join();
        play.putAll(60);
        CHECK.row("restart, then a split", play.steps(0, 4), 0, 0, 0, 3);
        CHECK.row("from the root, not from page 2", play.task(0), 0, Play.SEARCH, 0, 45, 1);
        CHECK.due("the PUT ends", play.end(0), -1);
        CHECK.row("one restart", play.counts(0), 9, 0, 0, 1);
    }

    /** The second split is posted before the first one. */
    private static void postBesideUnpostedPage() {
        Play play = new Play();
        play.putAll(10, 20, 30, 40, 50, 60, 70);
        play.begin(0, Play.PUT, 80, 800);
        play.steps(0, 4);
        CHECK.row("page 1", play.page(1), 1, 0, 30, 60, 3, 3, -1);
        play.putAll(90, 100, 110);
        CHECK.row("page 4 is posted beside page 1", play.entries(2), 30, 0, 90, 1, 999, 4);
        CHECK.due("page 3 is not under the root yet", play.tree.under(2), 8);
        CHECK.due("80 is found by the right link", play.find(80), 800);
        play.end(0);
        CHECK.row("page 3 is posted", play.entries(2), 30, 0, 60, 1, 90, 3, 999, 4);
        CHECK.due("all are under the root", play.tree.under(2), 11);
    }

    /** The lower node splits again before the first split is posted. */
    private static void postBesideUnpostedPageFirst() {
        Play play = new Play();
        play.putAll(10, 20, 30, 40, 50, 60, 70);
        play.begin(0, Play.PUT, 80, 800);
        play.steps(0, 4);
        play.putAll(41, 42);
        CHECK.row("page 4 is posted beside page 1", play.entries(2), 30, 0, 42, 1, 999, 4);
        play.end(0);
        CHECK.row("page 3 is posted", play.entries(2), 30, 0, 42, 1, 60, 4, 999, 3);
    }
}
