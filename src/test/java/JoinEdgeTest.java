import java.util.ArrayList;
import java.util.List;

/** The boundary cases of a JOIN's change. */
public final class JoinEdgeTest {
    private static final Check CHECK = new Check();

    public static void main(String[] args) {
        pageIsDead();
        pageIsDeadAndOthersLocked();
        noChildOfP();
        butOneEntry();
        butOneEntryAndLocked();
        pageAndTheNext();
        lastAndTheOneBefore();
        aIsLocked();
        bIsLocked();
        lockedByAnyTask();
        neighbourIsLocked();
        highOfA();
        highOfB();
        blockedBeforeHigh();
        leavesOfAtMostFour();
        leavesOfMoreThanFour();
        innerNodesOfAtMostFour();
        innerNodesOfMoreThanFour();
        inPAtTheFirst();
        inPAtTheLast();
        childBecomesRoot();
        rootSinksOneLevel();
        rootWithRight();
        notTheRoot();
        twoEntriesThen();
        CHECK.end();
    }

    private static void endsWith(String what, Play play, int task, int answer) {
        CHECK.row(what + " is finished", play.steps(task, 1), 2);
        CHECK.due(what + ": the answer", play.tree.answer(task), answer);
    }

    private static void pageIsDead() {
        CHECK.says("if that page is DEAD, or no child of P, or P has but one entry: FINISHED with 0");
        Play play = Trees.threeLeaves();
        play.remove(80);
        play.begin(0, Play.JOIN, 0, 0);
        play.remove(40);
        play.remove(50);
        CHECK.due("page 3 into page 1", play.join(), 1);
        CHECK.due("page 3 is DEAD", play.tree.page(3, 0), 2);
        play.steps(0, 2);
        int[] p = play.entries(2);
        endsWith("the JOIN of page 3", play, 0, 0);
        CHECK.row("P is as it was", play.entries(2), p);
        CHECK.due("P is unlocked", play.tree.page(2, 6), -1);
    }

    private static void pageIsDeadAndOthersLocked() {
        CHECK.says("if that page is DEAD, or no child of P, or P has but one entry: FINISHED with 0");
        Play play = Trees.threeLeaves();
        play.remove(80);
        play.begin(0, Play.JOIN, 0, 0);
        play.remove(40);
        play.remove(50);
        play.join();
        play.begin(1, Play.PUT, 15, 150);
        play.begin(2, Play.PUT, 75, 750);
        play.steps(1, 3);
        play.steps(2, 3);
        CHECK.due("page 0 is locked", play.tree.page(0, 6), 1);
        CHECK.due("page 1 is locked", play.tree.page(1, 6), 2);
        play.steps(0, 2);
        endsWith("that does not matter: the JOIN", play, 0, 0);
    }

    /** Page 1 has split from page 0, the ROOT has been made, but page 1 is not posted. */
    private static void noChildOfP() {
        CHECK.says("or no child of P");
        Play play = new Play();
        play.putAll(10, 20, 30, 40);
        play.begin(0, Play.PUT, 50, 500);
        play.steps(0, 4);
        CHECK.row("the ROOT", play.entries(2), 999, 0);
        play.putAll(11, 12);
        CHECK.row("has two children", play.entries(2), 12, 0, 999, 3);
        play.remove(50);
        CHECK.due("page 1 is queued", play.tree.queued(), 1);
        play.begin(1, Play.JOIN, 0, 0);
        CHECK.row("JOIN of page 1", play.task(1), 0, Play.SEARCH, 2, 999, 1);
        play.begin(2, Play.PUT, 15, 150);
        play.steps(2, 3);
        CHECK.due("page 3 is locked", play.tree.page(3, 6), 2);
        play.steps(1, 2);
        endsWith("the JOIN", play, 1, 0);
        CHECK.row("P is as it was", play.entries(2), 12, 0, 999, 3);
        CHECK.due("P is unlocked", play.tree.page(2, 6), -1);
        CHECK.due("its page does not come again", play.tree.queued(), 0);
        play.end(2);
        CHECK.due("posted", play.end(0), -1);
        CHECK.row("page 1 is a child", play.entries(2), 12, 0, 30, 3, 999, 1);
    }

    /** Page 6 has the one child 4, which is small. */
    private static Play oneChild() {
        Play play = Trees.threeLevels();
        play.remove(130);
        CHECK.due("page 5 into page 4", play.join(), 1);
        play.begin(0, Play.JOIN, 0, 0);
        play.remove(100);
        play.remove(110);
        play.remove(120);
        CHECK.row("page 6", play.entries(6), 999, 4);
        play.begin(1, Play.JOIN, 0, 0);
        CHECK.row("JOIN of page 4", play.task(1), 0, Play.SEARCH, 7, 999, 1);
        return play;
    }

    private static void butOneEntry() {
        CHECK.says("or P has but one entry: FINISHED with 0");
        Play play = oneChild();
        CHECK.row("down to page 6", play.steps(1, 3), 0, 0, 0);
        endsWith("the JOIN of page 4", play, 1, 0);
        CHECK.row("page 6 is as it was", play.page(6), 1, 1, 90, 999, -1, 1, -1);
        CHECK.row("page 4 is as it was", play.entries(4), 140, 1400);
        CHECK.due("nothing comes into the queue", play.tree.queued(), 0);
    }

    private static void butOneEntryAndLocked() {
        CHECK.says("or P has but one entry: FINISHED with 0");
        Play play = oneChild();
        play.begin(2, Play.PUT, 145, 1450);
        play.steps(2, 4);
        CHECK.due("page 4 is locked", play.tree.page(4, 6), 2);
        play.steps(1, 3);
        endsWith("that does not matter: the JOIN", play, 1, 0);
    }

    private static void pageAndTheNext() {
        CHECK.says("the PAIR A, B are that page and the child of the next entry");
        Play first = Trees.threeLeaves();
        first.remove(10);
        first.remove(20);
        CHECK.due("page 0 with page 1", first.join(), 1);
        CHECK.row("page 0", first.entries(0), 30, 300, 40, 400, 50, 500, 60, 600);
        CHECK.due("page 1 has died", first.tree.page(1, 0), 0);
        CHECK.row("P", first.entries(2), 60, 0, 999, 3);

        Play middle = Trees.threeLeaves();
        middle.remove(40);
        middle.remove(50);
        CHECK.due("page 1 with page 3, not with page 0", middle.join(), 1);
        CHECK.row("page 1", middle.entries(1), 60, 600, 70, 700, 80, 800);
        CHECK.due("page 3 has died", middle.tree.page(3, 0), 0);
        CHECK.row("P", middle.entries(2), 30, 0, 999, 1);
    }

    private static void lastAndTheOneBefore() {
        CHECK.says("or, if it is the last one, the child of the entry before and that page");
        Play play = Trees.threeLeaves();
        play.remove(80);
        CHECK.due("page 1 with page 3", play.join(), 1);
        CHECK.row("page 1", play.entries(1), 40, 400, 50, 500, 60, 600, 70, 700);
        CHECK.due("page 3 has died, though it was the small one", play.tree.page(3, 0), 0);
        CHECK.row("P", play.entries(2), 30, 0, 999, 1);
    }

    /** A JOIN of page 3 (pair 1, 3) by task 0 meets a lock of another task at a key's leaf. */
    private static void blocked(int key, int locker) {
        Play play = Trees.threeLeaves();
        play.remove(80);
        play.begin(0, Play.JOIN, 0, 0);
        play.begin(locker, Play.PUT, key, 10 * key);
        play.steps(locker, 3);
        CHECK.row("lock", play.steps(0, 2), 0, 0);
        List<Integer> before = play.everything();
        CHECK.row("blocked", play.steps(0, 3), 1, 1, 1);
        List<Integer> after = play.everything();
        CHECK.row("three more blocked steps", play.counts(0), 5, 3, 0, 0);
        after.set(7, 2);
        after.set(8, 0);
        CHECK.same("nothing has changed", before, after);
        CHECK.due("P stays locked", play.tree.page(2, 6), 0);
        play.end(locker);
        endsWith("the JOIN", play, 0, 1);
        CHECK.due("P is unlocked", play.tree.page(2, 6), -1);
    }

    private static void aIsLocked() {
        CHECK.says("If A or B is locked: BLOCKED");
        blocked(45, 1);
    }

    private static void bIsLocked() {
        CHECK.says("If A or B is locked: BLOCKED");
        blocked(75, 1);
    }

    private static void lockedByAnyTask() {
        CHECK.says("If A or B is locked: BLOCKED");
        for (int locker = 1; locker < 4; locker++) {
            blocked(45, locker);
            blocked(75, locker);
        }
        Play both = Trees.threeLeaves();
        both.remove(80);
        both.begin(0, Play.JOIN, 0, 0);
        both.begin(1, Play.PUT, 45, 0);
        both.begin(2, Play.PUT, 75, 0);
        both.steps(1, 3);
        both.steps(2, 3);
        CHECK.row("both are locked", both.steps(0, 3), 0, 0, 1);
        both.end(1);
        CHECK.row("B is locked", both.steps(0, 1), 1);
        both.end(2);
        endsWith("the JOIN", both, 0, 1);
    }

    private static void neighbourIsLocked() {
        CHECK.says("If A or B is locked: BLOCKED");
        Play play = Trees.threeLeaves();
        play.remove(80);
        play.begin(1, Play.PUT, 15, 150);
        play.steps(1, 3);
        CHECK.due("page 0 is locked", play.tree.page(0, 6), 1);
        CHECK.due("it is neither A nor B", play.join(), 1);
    }

    private static void highOfA() {
        CHECK.says("If the HIGH of one of both is not its bound in P: FINISHED with 0");
        Play play = Trees.threeLeaves();
        play.putAll(45);
        play.begin(1, Play.PUT, 55, 550);
        CHECK.row("page 1 splits", play.steps(1, 4), 0, 0, 0, 3);
        play.remove(80);
        play.begin(0, Play.JOIN, 0, 0);
        play.steps(0, 2);
        endsWith("the JOIN", play, 0, 0);
        CHECK.row("P is as it was", play.entries(2), 30, 0, 60, 1, 999, 3);
        CHECK.row("A", play.entries(1), 40, 400, 45, 450, 50, 500);
        CHECK.row("B", play.entries(3), 70, 700);
        CHECK.due("its page does not come again", play.tree.queued(), 0);
    }

    private static void highOfB() {
        CHECK.says("If the HIGH of one of both is not its bound in P: FINISHED with 0");
        Play play = Trees.threeLeaves();
        play.putAll(90, 100);
        play.begin(1, Play.PUT, 110, 1100);
        CHECK.row("page 3 splits", play.steps(1, 4), 0, 0, 0, 3);
        play.remove(40);
        play.remove(50);
        play.begin(0, Play.JOIN, 0, 0);
        play.steps(0, 2);
        endsWith("the JOIN", play, 0, 0);
        CHECK.row("P is as it was", play.entries(2), 30, 0, 60, 1, 999, 3);
        CHECK.row("A", play.entries(1), 60, 600);
        CHECK.row("B", play.entries(3), 70, 700, 80, 800, 90, 900);
    }

    private static void blockedBeforeHigh() {
        CHECK.says("If A or B is locked: BLOCKED. If the HIGH of one of both is not its bound");
        Play play = Trees.threeLeaves();
        play.putAll(45);
        play.begin(1, Play.PUT, 55, 550);
        play.steps(1, 4);
        play.remove(80);
        play.begin(2, Play.PUT, 75, 750);
        play.steps(2, 3);
        play.begin(0, Play.JOIN, 0, 0);
        CHECK.row("B is locked", play.steps(0, 3), 0, 0, 1);
        play.end(2);
        endsWith("A's HIGH is not its bound", play, 0, 0);
    }

    /** Removes all that a leaf has and puts so many other keys, first, first + 1 .. */
    private static void refill(Play play, int page, int first, int many) {
        while (play.tree.page(page, 5) > 0) {
            play.remove(play.tree.entry(page, 0, false));
        }
        for (int key = first; key < first + many; key++) {
            play.putAll(key);
        }
    }

    private static int[] joined(int[] left, int[] right) {
        int[] all = new int[left.length + right.length];
        System.arraycopy(left, 0, all, 0, left.length);
        System.arraycopy(right, 0, all, left.length, right.length);
        return all;
    }

    private static int[] part(int[] all, int from, int to) {
        List<Integer> part = new ArrayList<>();
        for (int k = 2 * from; k < 2 * to; k++) {
            part.add(all[k]);
        }
        return part.stream().mapToInt(Integer::intValue).toArray();
    }

    /** Pages a and b under P; task 0's JOIN makes its change with so many entries in each. */
    private static void change(Play play, int a, int b, int p) {
        int[] all = joined(play.entries(a), play.entries(b));
        int together = all.length / 2;
        int level = play.tree.page(a, 1);
        String what = play.tree.page(a, 5) + " and " + play.tree.page(b, 5) + " of level " + level;
        CHECK.due(what + ": the answer", play.end(0), 1);
        if (together <= 4) {
            CHECK.row(what + ": A has all", play.entries(a), all);
            CHECK.row(what + ": A", play.page(a), 1, level, -1, 999, -1, together, -1);
            CHECK.due(what + ": B has died", play.tree.page(b, 0), 0);
            CHECK.due(what + ": P has died", play.tree.page(p, 0), 0);
            CHECK.due(what + ": A is the ROOT", play.tree.root(), a);
        } else {
            int half = together / 2 + together % 2;
            int border = all[2 * half - 2];
            CHECK.row(what + ": A has half, or one more", play.entries(a), part(all, 0, half));
            CHECK.row(what + ": B has the others", play.entries(b), part(all, half, together));
            CHECK.row(what + ": A", play.page(a), 1, level, -1, border, b, half, -1);
            CHECK.row(what + ": B", play.page(b), 1, level, border, 999, -1, together - half, -1);
            CHECK.row(what + ": P", play.entries(p), border, a, 999, b);
            CHECK.due(what + ": P is the ROOT", play.tree.root(), p);
        }
    }

    private static void leavesOfAtMostFour() {
        CHECK.says("If both together have at most 4 entries, B's come behind A's, A's HIGH and RIGHT become B's, B dies");
        leaves(0, 4);
    }

    private static void leavesOfMoreThanFour() {
        CHECK.says("Otherwise the left one gets so many entries, in order, that it has half of them, or one more");
        leaves(5, 8);
    }

    /** All pairs of leaves that together have so many entries, the first or the second one queued. */
    private static void leaves(int least, int most) {
        for (int a = 0; a <= 4; a++) {
            for (int b = Math.max(0, least - a); b <= Math.min(4, most - a); b++) {
                for (int small = 0; small < 2; small++) {
                    Play play = Trees.twoLeaves();
                    play.remove(small == 0 ? 10 : 50);
                    play.remove(small == 0 ? 20 : 55);
                    play.begin(0, Play.JOIN, 0, 0);
                    CHECK.due("JOIN of page " + small, play.tree.look(0, 3), small == 0 ? 30 : 999);
                    refill(play, 0, 11, a);
                    refill(play, 1, 41, b);
                    change(play, 0, 1, 2);
                }
            }
        }
    }

    private static void grow(Play play, int page, int first, int many) {
        for (int key = first; play.tree.page(page, 5) < many; key++) {
            play.putAll(key);
        }
    }

    /** Makes page 2 of the tree of three levels have two children, or one. */
    private static void shrinkLeft(Play play, int many) {
        if (many <= 2) {
            play.remove(10);
            play.remove(20);
            CHECK.due("page 1 into page 0", play.join(), 1);
        }
        if (many == 1) {
            play.remove(30);
            play.remove(40);
            play.remove(50);
            CHECK.due("page 3 into page 0", play.join(), 1);
        }
    }

    private static void shrinkRight(Play play, int many) {
        if (many == 1) {
            play.remove(130);
            CHECK.due("page 5 into page 4", play.join(), 1);
        }
    }

    private static void innerNodesOfAtMostFour() {
        CHECK.says("If both together have at most 4 entries, B's come behind A's, A's HIGH and RIGHT become B's, B dies");
        innerNodes(2, 4);
    }

    private static void innerNodesOfMoreThanFour() {
        CHECK.says("the last one's key or bound is A's HIGH, B's LOW, and A's bound in P");
        innerNodes(5, 8);
    }

    private static void innerNodes(int least, int most) {
        for (int a = 1; a <= 4; a++) {
            for (int b = Math.max(1, least - a); b <= Math.min(4, most - a); b++) {
                Play left = Trees.threeLevels();
                shrinkLeft(left, 1);
                left.begin(0, Play.JOIN, 0, 0);
                CHECK.row("JOIN of page 2", left.task(0), 0, Play.SEARCH, 7, 90, 2);
                shrinkRight(left, b);
                grow(left, 2, 1, a);
                grow(left, 6, 150, b);
                change(left, 2, 6, 7);

                Play right = Trees.threeLevels();
                shrinkRight(right, 1);
                right.begin(0, Play.JOIN, 0, 0);
                CHECK.row("JOIN of page 6", right.task(0), 0, Play.SEARCH, 7, 999, 2);
                shrinkLeft(right, a);
                grow(right, 2, 1, a);
                grow(right, 6, 150, b);
                change(right, 2, 6, 7);
            }
        }
    }

    private static void inPAtTheFirst() {
        CHECK.says("in P A's entry goes and B's gets the child A");
        Play play = Trees.leaves(4);
        play.remove(10);
        play.remove(20);
        CHECK.due("page 1 into page 0", play.join(), 1);
        CHECK.row("P", play.entries(2), 60, 0, 90, 3, 999, 4);
        CHECK.row("A's HIGH and RIGHT become B's", play.page(0), 1, 0, -1, 60, 3, 4, -1);
    }

    private static void inPAtTheLast() {
        CHECK.says("in P A's entry goes and B's gets the child A");
        Play play = Trees.leaves(4);
        play.remove(110);
        CHECK.due("page 4 into page 3", play.join(), 1);
        CHECK.row("P", play.entries(2), 30, 0, 60, 1, 999, 3);
        CHECK.row("A's HIGH and RIGHT become B's", play.page(3), 1, 0, 60, 999, -1, 4, -1);
        CHECK.row("the node before A is as it was", play.page(1), 1, 0, 30, 60, 3, 3, -1);
    }

    private static void childBecomesRoot() {
        CHECK.says("If P has one entry then: if P is the ROOT and has no RIGHT, its child becomes the ROOT, and P dies");
        Play play = Trees.twoLeaves();
        play.remove(50);
        play.begin(0, Play.FIND, 10, 0);
        CHECK.due("joined", play.join(), 1);
        CHECK.due("page 0 is the ROOT", play.tree.root(), 0);
        CHECK.due("P is DEAD", play.tree.page(2, 0), 2);
        CHECK.due("P does not come into the queue", play.tree.queued(), 0);
        CHECK.due("a new operation begins at the ROOT", beginAndLook(play), 0);
    }

    private static int beginAndLook(Play play) {
        play.begin(1, Play.FIND, 10, 0);
        return play.tree.look(1, 2);
    }

    /** Both have had but one entry: the ROOT sinks by one level, not down to a leaf. */
    private static void rootSinksOneLevel() {
        CHECK.says("its child becomes the ROOT, and P dies");
        Play play = Trees.threeLevels();
        shrinkLeft(play, 1);
        play.begin(0, Play.JOIN, 0, 0);
        shrinkRight(play, 1);
        CHECK.row("page 2 has one entry", play.entries(2), 90, 0);
        CHECK.row("page 6 has one entry", play.entries(6), 999, 4);
        CHECK.due("page 6 into page 2", play.end(0), 1);
        CHECK.due("page 2 is the ROOT", play.tree.root(), 2);
        CHECK.row("of two entries", play.entries(2), 90, 0, 999, 4);
        CHECK.due("page 6 has died", play.tree.page(6, 0), 0);
        CHECK.due("page 7 has died", play.tree.page(7, 0), 0);
        CHECK.due("pages 0 and 4 are alive", play.tree.page(0, 0) + play.tree.page(4, 0), 2);
    }

    /** The ROOT has split, and nothing is above it yet. */
    private static void rootWithRight() {
        CHECK.says("otherwise P's page comes into the queue");
        Play play = Trees.leaves(4);
        play.putAll(120, 130);
        play.begin(0, Play.PUT, 140, 1400);
        play.steps(0, 7);
        CHECK.row("the ROOT has a RIGHT", play.page(2), 1, 1, -1, 90, 6, 3, -1);
        shrinkLeft(play, 1);
        CHECK.row("it has one entry", play.entries(2), 90, 0);
        CHECK.due("it is still the ROOT", play.tree.root(), 2);
        CHECK.row("and a node", play.page(2), 1, 1, -1, 90, 6, 1, -1);
        CHECK.due("its page is queued", play.tree.queued(), 1);
        CHECK.due("posted", play.end(0), -1);
        CHECK.row("above it", play.entries(play.tree.root()), 90, 2, 999, 6);
        CHECK.due("now it is not the ROOT: page 6 into page 2", play.join(), 1);
        CHECK.due("page 2 is the ROOT", play.tree.root(), 2);
        CHECK.row("of three", play.entries(2), 90, 0, 120, 4, 999, 5);
    }

    private static void notTheRoot() {
        CHECK.says("otherwise P's page comes into the queue");
        Play play = Trees.threeLevels();
        shrinkRight(play, 1);
        CHECK.row("page 6 has one entry and no RIGHT", play.page(6), 1, 1, 90, 999, -1, 1, -1);
        CHECK.due("its page is queued", play.tree.queued(), 1);
        CHECK.due("the ROOT is as it was", play.tree.root(), 7);

        Play left = Trees.threeLevels();
        shrinkLeft(left, 1);
        CHECK.row("page 2 has one entry and a RIGHT", left.page(2), 1, 1, -1, 90, 6, 1, -1);
        CHECK.due("its page is queued", left.tree.queued(), 1);
        CHECK.due("the ROOT is as it was", left.tree.root(), 7);
    }

    private static void twoEntriesThen() {
        CHECK.says("If P has one entry then");
        Play root = Trees.threeLeaves();
        root.remove(80);
        CHECK.due("joined", root.join(), 1);
        CHECK.row("the ROOT has two", root.page(2), 1, 1, -1, 999, -1, 2, -1);
        CHECK.due("it stays", root.tree.root(), 2);
        CHECK.due("nothing is queued", root.tree.queued(), 0);

        Play inner = Trees.threeLevels();
        shrinkLeft(inner, 2);
        CHECK.row("page 2 has two", inner.page(2), 1, 1, -1, 90, 6, 2, -1);
        CHECK.due("nothing is queued", inner.tree.queued(), 0);

        Play shared = Trees.twoLeaves();
        shared.putAll(60, 70);
        shared.remove(10);
        shared.remove(20);
        CHECK.due("shared", shared.join(), 1);
        CHECK.due("the ROOT stays", shared.tree.root(), 2);
        CHECK.due("nothing is queued", shared.tree.queued(), 0);
    }
}
