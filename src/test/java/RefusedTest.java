import java.util.List;

/**
 * Every call that the document refuses (promises 2 to 7 and 10), at each cause, with arguments too
 * small and too large: what it throws, and that nothing has changed afterwards.
 */
public final class RefusedTest {
    private static final Check CHECK = new Check();
    private static final String[] METHODS = {"begin", "step", "answer", "look", "page", "entry", "under"};

    public static void main(String[] args) {
        noSuchTaskOrOperation();
        keyIsNot0To999();
        notLookedAtForJoin();
        whenItIsNotIdle();
        stepNoSuchTask();
        stepWhenItIsIdle();
        answerNoSuchTask();
        answerFinishedNone();
        lookNoSuchTaskOrWhat();
        pageNoSuchPageOrWhat();
        entryWhenThereIsNone();
        underWhenItIsNoNode();
        inManyStates();
        asIfNotCalled();
        CHECK.end();
    }

    /** A FIND at work, a PUT that locks leaf 1, two small leaves in the queue, a finished task 3. */
    private static Play atWork() {
        Play play = Trees.threeLeaves();
        play.remove(80);
        play.remove(10);
        play.remove(20);
        play.begin(0, Play.FIND, 70, 0);
        play.begin(1, Play.PUT, 55, 550);
        play.steps(1, 3);
        return play;
    }

    /** Leaf 1 and root 2 are DEAD, as task 0 was at work; all other pages but the root 0 are free. */
    private static Play withDeadPages() {
        Play play = Trees.twoLeaves();
        play.remove(50);
        play.begin(0, Play.FIND, 10, 0);
        play.join();
        return play;
    }

    /** Makes each refused call of a method on an object of its own that is in the same state. */
    private static void refused(String method, Play play) {
        List<Integer> before = play.everything();
        for (Refusals.Refusal refusal : Refusals.of(method, play)) {
            Play other = play.copy();
            CHECK.fails(refusal.what(), refusal.exception(), () -> refusal.call().applyAsInt(other.tree));
            CHECK.same("nothing has changed after " + refusal.what(), before, other.everything());
        }
    }

    private static void refusedAll(Play play) {
        for (String method : METHODS) {
            refused(method, play);
        }
    }

    private static long begun(Play play, int task, int operation, int key) {
        play.begin(task, operation, key, 0);
        return 0;
    }

    private static void noSuchTaskOrOperation() {
        CHECK.says("Throws IllegalArgumentException when there is no such task or operation");
        refused("begin", new Play());
        Play play = new Play();
        for (int task = 0; task < 4; task++) {
            int number = task;
            CHECK.fails("task " + task + " is one", "0", () -> begun(play, number, number, 5));
        }
    }

    private static void keyIsNot0To999() {
        CHECK.says("or key is not 0 .. 999");
        refused("begin", atWork());
        Play play = new Play();
        CHECK.fails("key 0", "0", () -> begun(play, 0, Play.FIND, 0));
        CHECK.fails("key 999", "0", () -> begun(play, 1, Play.FIND, 999));
    }

    private static void notLookedAtForJoin() {
        CHECK.says("(not looked at for JOIN)");
        for (int key : Refusals.WRONG_KEYS) {
            Play play = new Play();
            CHECK.fails("JOIN with key " + key, "0", () -> begun(play, 0, Play.JOIN, key));
            CHECK.row("is as any other", play.task(0), 0, Play.SEARCH, 0, 0, 0);
            Play small = Trees.twoLeaves();
            small.remove(50);
            CHECK.fails("JOIN with key " + key, "0", () -> begun(small, 0, Play.JOIN, key));
            CHECK.row("has the small node's", small.task(0), 0, Play.SEARCH, 2, 999, 1);
        }
    }

    private static void whenItIsNotIdle() {
        CHECK.says("IllegalStateException when it is not idle");
        for (int phase = Play.SEARCH; phase <= Play.HOLD; phase++) {
            Play play = Trees.twoLeaves();
            play.remove(50);
            play.begin(0, Play.PUT, 45, 450);
            play.steps(0, phase == Play.SEARCH ? 0 : phase + 1);
            CHECK.due("the phase", play.tree.look(0, 1), phase);
            refused("begin", play);
            CHECK.due("the PUT ends", play.end(0), -1);
            CHECK.due("with its own value", play.find(45), 450);
            CHECK.due("no JOIN has taken the small page", play.tree.queued(), 1);
            CHECK.fails("it is idle now", "0", () -> begun(play, 0, Play.FIND, 45));
        }
    }

    private static void stepNoSuchTask() {
        CHECK.says("Throws IllegalArgumentException when there is no such task");
        refused("step", new Play());
        refused("step", atWork());
    }

    private static void stepWhenItIsIdle() {
        CHECK.says("IllegalStateException when it is idle");
        Play play = atWork();
        refused("step", play);
        CHECK.fails("task 0 is not idle", "0", () -> play.step(0));
        play.end(0);
        CHECK.badState("task 0 is finished", () -> play.step(0));
        CHECK.badState("task 2 has never begun", () -> play.step(2));
        CHECK.row("which is no step", play.counts(2), 0, 0, 0, 0);
    }

    private static void answerNoSuchTask() {
        CHECK.says("Throws IllegalArgumentException when there is no such task");
        refused("answer", new Play());
        refused("answer", atWork());
    }

    private static void answerFinishedNone() {
        CHECK.says("NoSuchElementException when it has finished none");
        Play play = new Play();
        for (int task = 0; task < 4; task++) {
            int number = task;
            CHECK.noElement("never begun", () -> play.tree.answer(number));
            play.begin(task, Play.PUT, 5, 50 + task);
            CHECK.noElement("begun", () -> play.tree.answer(number));
            play.steps(task, 2);
            CHECK.noElement("not finished", () -> play.tree.answer(number));
            play.steps(task, 1);
            CHECK.due("finished", play.tree.answer(task), task == 0 ? -1 : 49 + task);
            play.begin(task, Play.FIND, 6, 0);
            CHECK.due("the finished one", play.tree.answer(task), task == 0 ? -1 : 49 + task);
        }
    }

    private static void lookNoSuchTaskOrWhat() {
        CHECK.says("Throws IllegalArgumentException when there is no such task or what");
        Play play = atWork();
        refused("look", play);
        for (int what = 0; what < 9; what++) {
            int number = what;
            CHECK.due("look(3, " + what + ") is one",
                Check.outcome(() -> play.tree.look(3, number)).endsWith("Exception") ? 1 : 0, 0);
        }
    }

    private static void pageNoSuchPageOrWhat() {
        CHECK.says("Throws IllegalArgumentException when there is no such page or what");
        refused("page", atWork());
        Play dead = withDeadPages();
        refused("page", dead);
        for (int what = 1; what < 7; what++) {
            CHECK.due("page(0, " + what + ") of a node", dead.tree.page(0, what),
                new int[] {0, -1, 999, -1, 4, -1}[what - 1]);
            CHECK.due("page(1, " + what + ") of a DEAD page", dead.tree.page(1, what), -2);
            CHECK.due("page(23, " + what + ") of a FREE page", dead.tree.page(23, what), -2);
        }
    }

    private static void entryWhenThereIsNone() {
        CHECK.says("Throws NoSuchElementException when there is none");
        Play play = new Play();
        for (int many = 0; many < 4; many++) {
            refused("entry", play);
            play.putAll(10 * many + 10);
            CHECK.due("entry " + many + " is there now", play.tree.entry(0, many, false), 10 * many + 10);
        }
        refused("entry", play);
        refused("entry", atWork());
        Play dead = withDeadPages();
        refused("entry", dead);
        dead.end(0);
        CHECK.due("the old root is free again", dead.tree.page(2, 0), 0);
        refused("entry", dead);
    }

    private static void underWhenItIsNoNode() {
        CHECK.says("Throws NoSuchElementException when it is no node");
        refused("under", new Play());
        Play dead = withDeadPages();
        refused("under", dead);
        CHECK.noElement("a DEAD leaf", () -> dead.tree.under(1));
        CHECK.noElement("a DEAD root", () -> dead.tree.under(2));
        dead.end(0);
        refused("under", dead);
        CHECK.noElement("a page that is free again", () -> dead.tree.under(2));
        CHECK.due("the root", dead.tree.under(0), 4);
    }

    private static void inManyStates() {
        CHECK.says("Throws IllegalArgumentException when there is no such task");
        refusedAll(new Play());
        refusedAll(atWork());
        refusedAll(withDeadPages());
        refusedAll(Trees.full());
        Play posting = Trees.full();
        posting.begin(2, Play.JOIN, 0, 0);
        posting.begin(0, Play.PUT, 11, 0);
        posting.steps(0, 5);
        refusedAll(posting);
    }

    /** Two objects do the same, and one of them is called in vain before each call. */
    private static void asIfNotCalled() {
        CHECK.says("Nothing is promised beyond the answers and state changes described above");
        for (int run = 0; run < 150; run++) {
            Play plain = new Play();
            Play pestered = new Play();
            Dice dice = new Dice(run);
            for (int call = 0; call < 250; call++) {
                pester(plain, pestered, dice);
                int task = dice.below(4);
                if (plain.tree.look(task, 0) == 1) {
                    int operation = dice.of(0, 1, 1, 1, 2, 2, 3);
                    int key = dice.below(60);
                    plain.begin(task, operation, key, call);
                    pestered.begin(task, operation, key, call);
                } else {
                    CHECK.due("step(" + task + ")", pestered.step(task), plain.step(task));
                }
                if (call % 10 == 9) {
                    CHECK.same("run " + run + " call " + call, plain.everything(), pestered.everything());
                }
            }
        }
    }

    private static void pester(Play plain, Play pestered, Dice dice) {
        List<Refusals.Refusal> refusals = Refusals.of(METHODS[dice.of(0, 0, 0, 1, 2, 3, 4, 5, 6)], plain);
        if (!refusals.isEmpty()) {
            Refusals.Refusal refusal = refusals.get(dice.below(refusals.size()));
            CHECK.fails(refusal.what(), refusal.exception(), () -> refusal.call().applyAsInt(pestered.tree));
        }
    }
}
