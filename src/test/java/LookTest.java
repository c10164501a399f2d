/** Promise 5: look. */
public final class LookTest {
    private static final Check CHECK = new Check();

    public static void main(String[] args) {
        wrongArguments();
        fromIdleToIdle();
        countsOverOperations();
        CHECK.end();
    }

    private static void wrongArguments() {
        Play play = new Play();
        for (int wrong : new int[] {-1, 4, Integer.MIN_VALUE, Integer.MAX_VALUE}) {
            CHECK.badArgument("look(" + wrong + ", 0)", () -> play.tree.look(wrong, 0));
        }
        for (int wrong : new int[] {-1, 9, Integer.MIN_VALUE, Integer.MAX_VALUE}) {
            CHECK.badArgument("look(0, " + wrong + ")", () -> play.tree.look(0, wrong));
        }
    }

    private static void fromIdleToIdle() {
        Play play = new Play();
        play.putAll(10, 20, 30, 40, 50);
        CHECK.row("idle", play.task(0), 1, -1, -1, -1, -1);
        play.begin(0, Play.REMOVE, 40, 0);
        CHECK.row("begun", play.task(0), 0, Play.SEARCH, 2, 40, 0);
        play.steps(0, 1);
        CHECK.row("at the leaf", play.task(0), 0, Play.SEARCH, 1, 40, 0);
        play.steps(0, 1);
        CHECK.row("to lock", play.task(0), 0, Play.LOCK, 1, 40, 0);
        play.steps(0, 1);
        CHECK.row("locked", play.task(0), 0, Play.HOLD, 1, 40, 0);
        play.steps(0, 1);
        CHECK.row("idle again", play.task(0), 1, -1, -1, -1, -1);
        CHECK.row("four steps", play.counts(0), 4, 0, 0, 0);
        CHECK.row("another task", play.task(1), 1, -1, -1, -1, -1);
        CHECK.row("its steps", play.counts(1), 0, 0, 0, 0);
    }

    /** The counts are of all operations of a task together; begin does not put them back. */
    private static void countsOverOperations() {
        Play play = new Play();
        play.putAll(10, 20, 30, 40);
        play.begin(0, Play.PUT, 50, 500);
        play.begin(1, Play.PUT, 45, 450);
        play.steps(0, 2);
        play.steps(1, 2);
        CHECK.row("one of two was blocked", play.counts(1), 2, 1, 0, 0);
        play.steps(0, 1);
        play.end(1);
        CHECK.row("right in HOLD", play.counts(1), 6, 1, 1, 0);
        play.begin(1, Play.FIND, 45, 0);
        CHECK.row("they stay", play.counts(1), 6, 1, 1, 0);
        play.end(1);
        CHECK.row("right in SEARCH", play.counts(1), 8, 1, 2, 0);
        play.end(0);
        play.remove(10);
        play.remove(20);
        play.remove(45);
        play.begin(1, Play.FIND, 40, 0);
        play.join();
        play.end(1);
        CHECK.row("a restart in SEARCH", play.counts(1), 10, 1, 2, 1);
    }
}
