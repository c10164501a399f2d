/** Promise 3: what PUT, POST and the making of a root do without a free page. */
public final class FullTest {
    private static final Check CHECK = new Check();

    public static void main(String[] args) {
        putWithoutPage();
        postWithoutPage();
        postAboveWithoutPage();
        rootWithoutPage();
        CHECK.end();
    }

    private static void putWithoutPage() {
        Play play = Trees.full();
        CHECK.due("all pages are used", play.freePages(), 0);
        CHECK.due("a leaf that has room", play.put(11, 5), -1);
        CHECK.due("now it is full", play.tree.page(0, 5), 4);
        play.begin(0, Play.PUT, 12, 6);
        CHECK.row("no split", play.steps(0, 6), 0, 0, 0, 0, 0, 2);
        CHECK.due("the answer", play.tree.answer(0), -2);
        CHECK.row("nothing came in", play.entries(0), 10, 100, 11, 5, 20, 200, 30, 300);
        CHECK.due("the leaf is unlocked", play.tree.page(0, 6), -1);
        CHECK.due("not there", play.find(12), -1);
        CHECK.due("an old key is still changed", play.put(20, 7), 200);
        play.remove(11);
        CHECK.due("room again", play.put(12, 6), -1);
    }

    /** The 24th page goes to a leaf, and its parent is full. */
    private static void postWithoutPage() {
        Play play = Trees.leaves(14);
        CHECK.due("22 pages", play.freePages(), 2);
        Trees.splitLeaf(play, 10);
        CHECK.due("23 pages", play.freePages(), 1);
        play.put(5, 1);
        CHECK.row("the parent is full", play.page(2), 1, 1, -1, 90, 6, 4, -1);
        int[] before = play.entries(2);
        play.begin(0, Play.PUT, 6, 44);
        CHECK.row("down, and the leaf splits", play.steps(0, 6), 0, 0, 0, 0, 0, 3);
        CHECK.due("24 pages", play.freePages(), 0);
        CHECK.row("to the parent, and finished", play.steps(0, 3), 0, 0, 2);
        CHECK.due("the answer of the PUT", play.tree.answer(0), -1);
        CHECK.row("nothing is posted", play.entries(2), before);
        CHECK.due("the parent is unlocked", play.tree.page(2, 6), -1);
        CHECK.due("it came in", play.find(6), 44);
        CHECK.due("upper keys are found by the right link", play.find(12), 120);
    }

    /** The 24th page goes to a node of level 1, and the root above is full. */
    private static void postAboveWithoutPage() {
        Play play = Trees.fullInnerNodes();
        int root = play.tree.root();
        play.put(131, 1);
        play.begin(0, Play.PUT, 132, 1);
        CHECK.row("task 0 splits a leaf and waits", play.steps(0, 5), 0, 0, 0, 0, 3);
        CHECK.due("22 pages", play.freePages(), 2);
        int[] before = play.entries(root);
        play.put(41, 1);
        play.begin(1, Play.PUT, 42, 77);
        CHECK.row("task 1 splits a leaf", play.steps(1, 5), 0, 0, 0, 0, 3);
        CHECK.row("and its parent", play.steps(1, 3), 0, 0, 0);
        CHECK.due("24 pages", play.freePages(), 0);
        CHECK.row("to the root, and finished", play.steps(1, 3), 0, 0, 2);
        CHECK.due("the answer of the PUT", play.tree.answer(1), -1);
        CHECK.row("nothing is posted", play.entries(root), before);
        CHECK.due("it came in", play.find(42), 77);
        CHECK.row("task 0 cannot post either", play.steps(0, 3), 0, 0, 2);
        CHECK.due("the answer of the PUT", play.tree.answer(0), -1);
    }

    /** The 24th page goes to the root's split. */
    private static void rootWithoutPage() {
        Play play = Trees.fullInnerNodes();
        int root = play.tree.root();
        play.put(41, 1);
        play.begin(0, Play.PUT, 42, 77);
        CHECK.row("a leaf splits", play.steps(0, 5), 0, 0, 0, 0, 3);
        CHECK.row("its parent splits", play.steps(0, 3), 0, 0, 0);
        CHECK.row("the root splits", play.steps(0, 3), 0, 0, 0);
        CHECK.due("24 pages", play.freePages(), 0);
        CHECK.due("to post above the root", play.tree.look(0, 4), 3);
        CHECK.row("finished", play.steps(0, 1), 2);
        CHECK.due("the answer of the PUT", play.tree.answer(0), -1);
        CHECK.due("the root is as it was", play.tree.root(), root);
        CHECK.due("with three entries", play.tree.page(root, 5), 3);
        CHECK.due("and a RIGHT", play.tree.page(play.tree.page(root, 4), 5), 2);
        CHECK.due("found by the right link", play.find(380), 3800);
    }
}
