/** Promises 6, 7 and 8: page, entry and root. */
public final class PageTest {
    private static final Check CHECK = new Check();

    public static void main(String[] args) {
        wrongArguments();
        nodesAndFreePages();
        entries();
        CHECK.end();
    }

    private static void wrongArguments() {
        Play play = new Play();
        for (int wrong : new int[] {-1, 24, Integer.MIN_VALUE, Integer.MAX_VALUE}) {
            CHECK.badArgument("page(" + wrong + ", 0)", () -> play.tree.page(wrong, 0));
            CHECK.badArgument("page(" + wrong + ", 1)", () -> play.tree.page(wrong, 1));
        }
        for (int wrong : new int[] {-1, 7, Integer.MIN_VALUE, Integer.MAX_VALUE}) {
            CHECK.badArgument("page(0, " + wrong + ")", () -> play.tree.page(0, wrong));
            CHECK.badArgument("page(23, " + wrong + ")", () -> play.tree.page(23, wrong));
        }
        CHECK.due("the last page", play.tree.page(23, 0), 0);
    }

    private static void nodesAndFreePages() {
        Play play = new Play();
        play.putAll(10, 20, 30, 40);
        CHECK.row("a leaf", play.page(0), 1, 0, -1, 999, -1, 4, -1);
        CHECK.due("root()", play.tree.root(), 0);
        play.putAll(50);
        CHECK.row("a first leaf", play.page(0), 1, 0, -1, 30, 1, 3, -1);
        CHECK.row("a last leaf", play.page(1), 1, 0, 30, 999, -1, 2, -1);
        CHECK.row("a root", play.page(2), 1, 1, -1, 999, -1, 2, -1);
        CHECK.row("a free page", play.page(3), 0, -2, -2, -2, -2, -2, -2);
        CHECK.due("root()", play.tree.root(), 2);
        for (int task = 0; task < 3; task++) {
            play.begin(task, Play.PUT, 60, 600);
            play.steps(task, 3);
            CHECK.due("locked by task " + task, play.tree.page(1, 6), task);
            play.end(task);
            CHECK.due("locked by nobody", play.tree.page(1, 6), -1);
        }
        play.remove(10);
        play.remove(20);
        play.begin(0, Play.FIND, 10, 0);
        CHECK.due("joined", play.join(), 1);
        CHECK.row("a dead leaf", play.page(1), 2, -2, -2, -2, -2, -2, -2);
        CHECK.row("a dead root", play.page(2), 2, -2, -2, -2, -2, -2, -2);
        CHECK.due("root()", play.tree.root(), 0);
    }

    private static void entries() {
        Play play = new Play();
        CHECK.noElement("an empty leaf", () -> play.tree.entry(0, 0, false));
        play.putAll(10, 20, 30, 40, 50);
        CHECK.due("a key", play.tree.entry(0, 2, false), 30);
        CHECK.due("a value", play.tree.entry(0, 2, true), 300);
        CHECK.due("a bound", play.tree.entry(2, 1, false), 999);
        CHECK.due("a child", play.tree.entry(2, 1, true), 1);
        for (int wrong : new int[] {-1, 3, 4, 5, Integer.MIN_VALUE, Integer.MAX_VALUE}) {
            CHECK.noElement("entry(0, " + wrong + ", false)", () -> play.tree.entry(0, wrong, false));
            CHECK.noElement("entry(0, " + wrong + ", true)", () -> play.tree.entry(0, wrong, true));
        }
        CHECK.noElement("an entry that has gone over", () -> play.tree.entry(2, 2, true));
        for (int wrong : new int[] {-1, 3, 23, 24, Integer.MIN_VALUE, Integer.MAX_VALUE}) {
            CHECK.noElement("entry(" + wrong + ", 0, false)", () -> play.tree.entry(wrong, 0, false));
        }
        play.remove(50);
        play.begin(0, Play.FIND, 10, 0);
        play.join();
        CHECK.noElement("a dead leaf", () -> play.tree.entry(1, 0, false));
        CHECK.noElement("a dead root", () -> play.tree.entry(2, 0, true));
        play.end(0);
        CHECK.noElement("a page that is free again", () -> play.tree.entry(1, 0, false));
    }
}
