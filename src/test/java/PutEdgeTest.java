/** The boundary cases of PUT, SPLIT and POST. */
public final class PutEdgeTest {
    private static final Check CHECK = new Check();

    public static void main(String[] args) {
        keyIsThere();
        keyIsThereInAFullTree();
        entryComesIn();
        fiveThen();
        putWithoutPage();
        putWithoutPageButRoom();
        putWhenPageIsDead();
        putThatKeepsThePageDead();
        putWithTheLastPage();
        leastFreePage();
        upperTwo();
        highAndLowAtTheThird();
        splitOfAMiddleNode();
        postFromThePath();
        postFromTheRoot();
        postFromADeadPage();
        postAtTheFirstEntry();
        postAtAMiddleEntry();
        postAtTheLastEntry();
        postMakesFour();
        postMakesFive();
        postWithoutPage();
        postWithoutPageButRoom();
        postAboveWithoutPage();
        postAnswersMinusOne();
        comeInIsToldOnce();
        CHECK.end();
    }

    private static void keyIsThere() {
        CHECK.says("if the key is there, it gets the value: FINISHED with the value that it had");
        for (int key : new int[] {10, 20, 30, 40}) {
            Play play = new Play();
            play.putAll(10, 20, 30, 40);
            play.begin(0, Play.PUT, key, -5);
            CHECK.row("finished, in a full leaf too", play.steps(0, 3), 0, 0, 2);
            CHECK.due("the value that it had", play.tree.answer(0), 10 * key);
            CHECK.due("the value", play.find(key), -5);
            CHECK.row("one node of four", play.page(0), 1, 0, -1, 999, -1, 4, -1);
        }
    }

    private static void keyIsThereInAFullTree() {
        CHECK.says("if the key is there, it gets the value: FINISHED with the value that it had");
        Play play = Trees.fullWithFullLeaf();
        CHECK.due("no page is free", play.freePages(), 0);
        CHECK.due("no page is needed", play.put(11, 5), 110);
        CHECK.due("the value", play.find(11), 5);
        CHECK.due("a value that looks like no page", play.put(11, -2), 5);
        CHECK.due("the value that it had", play.put(11, 6), -2);
    }

    private static void entryComesIn() {
        CHECK.says("Otherwise an entry comes in, and the answer is -1");
        Play play = new Play();
        for (int many = 1; many <= 4; many++) {
            play.begin(0, Play.PUT, 100 - many, many);
            CHECK.row("finished", play.steps(0, 3), 0, 0, 2);
            CHECK.due("the answer", play.tree.answer(0), -1);
            CHECK.due("entries", play.tree.page(0, 5), many);
            CHECK.due("it came in before the others", play.tree.entry(0, 0, true), many);
        }
    }

    private static void fiveThen() {
        CHECK.says("if there are 5 then, the node SPLITS");
        for (int key : new int[] {0, 15, 25, 35, 999}) {
            Play play = new Play();
            play.putAll(10, 20, 30, 40);
            play.begin(0, Play.PUT, key, 7);
            CHECK.row("it does not end", play.steps(0, 3), 0, 0, 3);
            CHECK.due("three", play.tree.page(0, 5), 3);
            CHECK.due("and two", play.tree.page(1, 5), 2);
            CHECK.due("it came in", play.find(key), 7);
            CHECK.due("the answer", play.end(0), -1);
        }
    }

    private static void putWithoutPage() {
        CHECK.says("without a free page nothing comes in: FINISHED with -2");
        Play play = Trees.fullWithFullLeaf();
        CHECK.due("no page is free", play.freePages(), 0);
        for (int key : new int[] {0, 12, 29}) {
            play.begin(0, Play.PUT, key, 7);
            CHECK.row("finished", play.steps(0, 6), 0, 0, 0, 0, 0, 2);
            CHECK.due("with -2", play.tree.answer(0), -2);
            CHECK.row("nothing came in", play.entries(0), 10, 100, 11, 110, 20, 200, 30, 300);
            CHECK.row("the node is as it was", play.page(0), 1, 0, -1, 30, 1, 4, -1);
            CHECK.due("not there", play.find(key), -1);
            CHECK.row("idle", play.task(0), 1, -1, -1, -1, -1);
        }
    }

    private static void putWithoutPageButRoom() {
        CHECK.says("without a free page nothing comes in: FINISHED with -2");
        Play play = Trees.full();
        CHECK.due("no page is free", play.freePages(), 0);
        CHECK.due("none is needed for the fourth", play.put(11, 7), -1);
        CHECK.due("one is for the fifth", play.put(12, 7), -2);
        play.remove(11);
        CHECK.due("none is needed again", play.put(12, 7), -1);
    }

    /** Leaf 23 (460) is joined into leaf 22 while tasks 0 and 1 are at work. */
    private static Play withDeadPage() {
        Play play = Trees.fullWithFullLeaf();
        play.begin(0, Play.FIND, 10, 0);
        play.begin(1, Play.PUT, 12, 120);
        play.remove(470);
        CHECK.due("page 23 into page 22", play.join(), 1);
        CHECK.due("page 23 is DEAD", play.tree.page(23, 0), 2);
        CHECK.due("no page is free", play.freePages(), 0);
        return play;
    }

    private static void putWhenPageIsDead() {
        CHECK.says("without a free page nothing comes in: FINISHED with -2");
        Play play = withDeadPage();
        CHECK.due("a DEAD page is not free", play.put(13, 130), -2);
        play.end(0);
        CHECK.due("task 1 is still at work", play.put(13, 130), -2);
        play.end(1);
        CHECK.due("page 23 is free", play.freePages(), 1);
        play.begin(0, Play.PUT, 13, 130);
        CHECK.row("it splits", play.steps(0, 6), 0, 0, 0, 0, 0, 3);
        CHECK.row("page 23 is used", play.page(23), 1, 0, 13, 30, 1, 2, -1);
    }

    /** The page is DEAD because of the very PUT that would need it. */
    private static void putThatKeepsThePageDead() {
        CHECK.says("without a free page nothing comes in: FINISHED with -2");
        Play play = withDeadPage();
        play.end(0);
        CHECK.due("task 1 was at work when page 23 died", play.end(1), -2);
        CHECK.due("now it is finished", play.tree.page(23, 0), 0);
        CHECK.due("its next PUT gets the page", play.whole(1, Play.PUT, 12, 120), -1);
        CHECK.due("it is there", play.find(12), 120);
    }

    private static void putWithTheLastPage() {
        CHECK.says("without a free page nothing comes in: FINISHED with -2");
        Play play = Trees.leaves(15);
        CHECK.due("one page is free", play.freePages(), 1);
        play.putAll(11);
        CHECK.due("one page is enough for a leaf", play.put(12, 120), -1);
        CHECK.due("no page is free", play.freePages(), 0);
        CHECK.due("and its parent has room", play.tree.page(2, 5), 4);
    }

    private static void leastFreePage() {
        CHECK.says("the free page with the least number");
        Play play = Trees.threeLeaves();
        play.remove(40);
        play.remove(50);
        CHECK.due("page 3 into page 1", play.join(), 1);
        CHECK.due("page 3 is free", play.tree.page(3, 0), 0);
        CHECK.due("page 4 is free", play.tree.page(4, 0), 0);
        Trees.splitLeaf(play, 10);
        CHECK.row("page 3 is used", play.page(3), 1, 0, 12, 30, 1, 2, -1);
        play.putAll(71, 72);
        CHECK.row("then page 4", play.page(4), 1, 0, 71, 999, -1, 2, -1);

        Play dead = Trees.threeLeaves();
        dead.begin(0, Play.FIND, 10, 0);
        dead.remove(40);
        dead.remove(50);
        CHECK.due("page 3 into page 1", dead.join(), 1);
        Trees.splitLeaf(dead, 10);
        CHECK.due("page 3 is DEAD", dead.tree.page(3, 0), 2);
        CHECK.row("page 4 is used", dead.page(4), 1, 0, 12, 30, 1, 2, -1);
    }

    private static void upperTwo() {
        CHECK.says("gets the upper 2 entries, its HIGH and RIGHT");
        int[] keys = {10, 20, 30, 40, 50};
        for (int last = 0; last < 5; last++) {
            Play play = new Play();
            for (int k = 0; k < 5; k++) {
                if (k != last) {
                    play.putAll(keys[k]);
                }
            }
            play.begin(0, Play.PUT, keys[last], 10 * keys[last]);
            CHECK.row("it splits", play.steps(0, 3), 0, 0, 3);
            CHECK.row("the lower 3", play.entries(0), 10, 100, 20, 200, 30, 300);
            CHECK.row("the upper 2", play.entries(1), 40, 400, 50, 500);
            CHECK.row("HIGH and RIGHT", play.page(1), 1, 0, 30, 999, -1, 2, -1);
        }
    }

    private static void highAndLowAtTheThird() {
        CHECK.says("the key or bound of the third entry is the HIGH of the node and the LOW of the new one, which is the RIGHT of the node");
        Play play = new Play();
        play.putAll(0, 1, 2, 3);
        play.begin(0, Play.PUT, 4, 40);
        play.steps(0, 3);
        CHECK.row("the node", play.page(0), 1, 0, -1, 2, 1, 3, -1);
        CHECK.row("the new one", play.page(1), 1, 0, 2, 999, -1, 2, -1);
        CHECK.row("it seeks that HIGH, wants the next level", play.task(0), 0, Play.SEARCH, 0, 2, 1);

        Play inner = Trees.leaves(4);
        inner.putAll(120, 130);
        inner.begin(0, Play.PUT, 140, 1400);
        inner.steps(0, 7);
        CHECK.row("the node", inner.page(2), 1, 1, -1, 90, 6, 3, -1);
        CHECK.row("the new one", inner.page(6), 1, 1, 90, 999, -1, 2, -1);
        CHECK.row("it seeks that HIGH, wants the next level", inner.task(0), 0, Play.SEARCH, 2, 90, 2);
    }

    private static void splitOfAMiddleNode() {
        CHECK.says("gets the upper 2 entries, its HIGH and RIGHT");
        Play play = Trees.threeLeaves();
        Trees.splitLeaf(play, 40);
        CHECK.row("page 0", play.page(0), 1, 0, -1, 30, 1, 3, -1);
        CHECK.row("page 1", play.page(1), 1, 0, 30, 42, 4, 3, -1);
        CHECK.row("page 4", play.page(4), 1, 0, 42, 60, 3, 2, -1);
        CHECK.row("page 3", play.page(3), 1, 0, 60, 999, -1, 2, -1);
        CHECK.row("the root", play.entries(2), 30, 0, 42, 1, 60, 4, 999, 3);
    }

    /** Page 2 is not the ROOT any more when the leaf splits. */
    private static void postFromThePath() {
        CHECK.says("and searches from the page in its path for that level");
        Play play = Trees.leaves(4);
        play.putAll(120, 130);
        play.begin(0, Play.PUT, 12, 120);
        play.steps(0, 1);
        play.putAll(140, 11);
        CHECK.due("page 7 is the ROOT", play.tree.root(), 7);
        CHECK.row("it splits", play.steps(0, 3), 0, 0, 3);
        CHECK.row("from page 2", play.task(0), 0, Play.SEARCH, 2, 12, 1);
        CHECK.row("without the ROOT", play.steps(0, 3), 0, 0, 2);
        CHECK.row("in page 2", play.entries(2), 12, 0, 30, 8, 60, 1, 90, 3);
    }

    private static void postFromTheRoot() {
        CHECK.says("or from the ROOT");
        Play play = new Play();
        play.putAll(10, 20, 30, 40);
        play.begin(0, Play.PUT, 50, 500);
        play.steps(0, 1);
        play.putAll(5);
        CHECK.due("page 2 is the ROOT", play.tree.root(), 2);
        play.putAll(41, 42, 6, 7);
        CHECK.row("page 0", play.entries(0), 5, 50, 6, 60, 7, 70);
        CHECK.row("over the right links, and a split", play.steps(0, 6), 0, 0, 0, 0, 0, 3);
        CHECK.row("from the ROOT, having no path", play.task(0), 0, Play.SEARCH, 2, 41, 1);
        CHECK.due("posted", play.end(0), -1);
        CHECK.row("in page 2", play.entries(2), 7, 0, 20, 3, 41, 1, 999, 4);
    }

    /** The page in the path has died since: the POST restarts there. */
    private static void postFromADeadPage() {
        CHECK.says("and searches from the page in its path for that level");
        Play play = Trees.threeLevels();
        play.putAll(11);
        play.remove(130);
        play.begin(1, Play.JOIN, 0, 0);
        play.begin(0, Play.PUT, 115, 1150);
        play.steps(0, 2);
        CHECK.due("down from page 6", play.tree.look(0, 2), 4);
        CHECK.due("page 5 into page 4", play.end(1), 1);
        CHECK.due("page 6 is shared or joined", play.join(), 1);
        CHECK.due("page 6 is DEAD", play.tree.page(6, 0), 2);
        CHECK.row("it splits", play.steps(0, 3), 0, 0, 3);
        CHECK.row("from page 6", play.task(0), 0, Play.SEARCH, 6, 115, 1);
        CHECK.row("a restart", play.steps(0, 1), 0);
        CHECK.row("from the ROOT with key and level", play.task(0), 0, Play.SEARCH, 2, 115, 1);
        CHECK.due("posted", play.end(0), -1);
        CHECK.due("found", play.find(115), 1150);
        CHECK.due("found", play.find(140), 1400);
    }

    private static void postAtTheFirstEntry() {
        CHECK.says("of the first entry whose bound is not below the key, b and c, there become two: the key and c, b and the page");
        Play play = Trees.threeLeaves();
        Trees.splitLeaf(play, 10);
        CHECK.row("the root", play.entries(2), 12, 0, 30, 4, 60, 1, 999, 3);
    }

    private static void postAtAMiddleEntry() {
        CHECK.says("of the first entry whose bound is not below the key, b and c, there become two: the key and c, b and the page");
        Play play = Trees.threeLeaves();
        Trees.splitLeaf(play, 50);
        CHECK.row("the root", play.entries(2), 30, 0, 51, 1, 60, 4, 999, 3);
    }

    private static void postAtTheLastEntry() {
        CHECK.says("of the first entry whose bound is not below the key, b and c, there become two: the key and c, b and the page");
        Play play = Trees.threeLeaves();
        play.putAll(999, 998, 997);
        CHECK.row("the root", play.entries(2), 30, 0, 60, 1, 997, 3, 999, 4);
    }

    private static void postMakesFour() {
        CHECK.says("if not, FINISHED (with the answer of the PUT)");
        Play play = Trees.threeLeaves();
        play.putAll(11);
        play.begin(0, Play.PUT, 12, 120);
        CHECK.row("down, split, post", play.steps(0, 7), 0, 0, 0, 3, 0, 0, 2);
        CHECK.due("the answer of the PUT", play.tree.answer(0), -1);
        CHECK.row("four", play.page(2), 1, 1, -1, 999, -1, 4, -1);
    }

    private static void postMakesFive() {
        CHECK.says("If there are 5 then, the node splits, and the task posts that page");
        for (int leaf = 0; leaf < 4; leaf++) {
            Play play = Trees.leaves(4);
            int first = 10 + 30 * leaf;
            for (int key = first + 1; play.tree.page(Trees.leafOf(play, first), 5) < 4; key++) {
                play.putAll(key);
            }
            play.begin(0, Play.PUT, first + 5, 7);
            CHECK.row("down, split, post, split", play.steps(0, 7), 0, 0, 0, 3, 0, 0, 0);
            CHECK.due("three", play.tree.page(2, 5), 3);
            CHECK.due("and two", play.tree.page(6, 5), 2);
            CHECK.due("HIGH is LOW", play.tree.page(2, 3), play.tree.page(6, 2));
            CHECK.row("it posts page 6", play.task(0), 0, Play.SEARCH, 2, play.tree.page(2, 3), 2);
            CHECK.row("new ROOT, lock, hold, finished", play.steps(0, 4), 0, 0, 0, 2);
            CHECK.due("the answer of the PUT", play.tree.answer(0), -1);
            CHECK.row("the ROOT", play.entries(7), play.tree.page(2, 3), 2, 999, 6);
            CHECK.due("all are under it", play.tree.under(7), leaf == 3 ? 14 : 13);
        }
    }

    /** Page 2 is full, and the last free page goes to the leaf. */
    private static Play leafTakesTheLastPage() {
        Play play = Trees.leaves(14);
        Trees.splitLeaf(play, 10);
        play.putAll(5);
        CHECK.due("one page is free", play.freePages(), 1);
        CHECK.row("the parent is full", play.page(2), 1, 1, -1, 90, 6, 4, -1);
        return play;
    }

    private static void postWithoutPage() {
        CHECK.says("without a free page nothing is changed, FINISHED");
        Play play = leafTakesTheLastPage();
        int[] before = play.entries(2);
        play.begin(0, Play.PUT, 6, 60);
        CHECK.row("the leaf splits", play.steps(0, 6), 0, 0, 0, 0, 0, 3);
        CHECK.row("HOLD at the parent", play.steps(0, 2), 0, 0);
        CHECK.row("finished", play.steps(0, 1), 2);
        CHECK.due("the answer of the PUT", play.tree.answer(0), -1);
        CHECK.row("nothing is changed", play.entries(2), before);
        CHECK.row("nothing is changed", play.page(2), 1, 1, -1, 90, 6, 4, -1);
        CHECK.row("the leaf", play.entries(0), 5, 50, 6, 60, 10, 100);
        CHECK.row("and its RIGHT stay split", play.entries(play.tree.page(0, 4)), 11, 110, 12, 120);
        CHECK.due("found by the right link", play.find(12), 120);
        CHECK.due("put by the right link", play.put(12, 5), 120);
    }

    private static void postWithoutPageButRoom() {
        CHECK.says("without a free page nothing is changed, FINISHED");
        Play play = Trees.leaves(15);
        play.putAll(11);
        play.begin(0, Play.PUT, 12, 120);
        play.steps(0, 6);
        CHECK.due("no page is free", play.freePages(), 0);
        CHECK.due("none is needed for the fourth entry", play.end(0), -1);
        CHECK.row("posted", play.entries(2), 12, 0, 30, 23, 60, 1, 90, 3);
    }

    private static void postAboveWithoutPage() {
        CHECK.says("without a free page nothing is changed, FINISHED");
        Play play = Trees.fullInnerNodes();
        play.putAll(131);
        play.begin(1, Play.PUT, 132, 1320);
        CHECK.row("task 1 takes a page for a leaf", play.steps(1, 5), 0, 0, 0, 0, 3);
        int[] before = play.entries(7);
        play.putAll(41);
        play.begin(0, Play.PUT, 42, 420);
        CHECK.row("task 0 splits a leaf and page 2", play.steps(0, 8), 0, 0, 0, 0, 3, 0, 0, 0);
        CHECK.due("no page is free", play.freePages(), 0);
        CHECK.row("page 2 has split", play.page(2), 1, 1, -1, 42, 23, 3, -1);
        CHECK.row("finished at the ROOT", play.steps(0, 3), 0, 0, 2);
        CHECK.due("the answer of the PUT", play.tree.answer(0), -1);
        CHECK.row("nothing is changed", play.entries(7), before);
        CHECK.row("nothing is changed", play.page(7), 1, 2, -1, 999, -1, 4, -1);
        CHECK.due("found by the right link", play.find(90), 900);
        CHECK.due("task 1 is finished as well", play.end(1), -1);
        CHECK.due("found by the right link", play.find(150), 1500);
    }

    /** The answer of a PUT that is posted is -1, whatever its value and the task's answer before. */
    private static void postAnswersMinusOne() {
        CHECK.says("FINISHED (with the answer of the PUT)");
        Play play = new Play();
        play.putAll(10, 20, 30, 40);
        CHECK.due("an answer before", play.whole(0, Play.FIND, 10, 0), 100);
        play.begin(0, Play.PUT, 50, 77);
        play.steps(0, 3);
        CHECK.due("it is not finished when it has come in", play.tree.answer(0), 100);
        CHECK.due("finished", play.end(0), -1);
    }

    private static void comeInIsToldOnce() {
        CHECK.says("3 its PUT has come in, and it goes on to post");
        Play play = Trees.fullInnerNodes();
        play.putAll(41);
        play.begin(0, Play.PUT, 42, 420);
        CHECK.row("down", play.steps(0, 4), 0, 0, 0, 0);
        CHECK.due("not there yet", play.find(42), -1);
        CHECK.row("it comes in", play.steps(0, 1), 3);
        CHECK.due("there", play.find(42), 420);
        CHECK.row("posts that split go on", play.steps(0, 6), 0, 0, 0, 0, 0, 0);
        CHECK.row("finished", play.steps(0, 1), 2);
    }
}
