/**
 * The sentences of the document, from its first line, that are no boundary cases: what it is, what the
 * terms mean, and what an ordinary operation does and answers.
 */
public final class DocumentTest {
    private static final Check CHECK = new Check();

    public static void main(String[] args) {
        neighboursOnTheRight();
        fewLocks();
        smallNodesAreJoined();
        pageIsUsedAgain();
        freeNodeOrDead();
        levels();
        lowAndHigh();
        leafEntries();
        innerEntries();
        childFor();
        placeKeyAndLevel();
        phases();
        searchChangesNoNode();
        wantedOne();
        holdLooksAgain();
        putFinishedWithoutSplit();
        splitMakesANode();
        goesOnToPost();
        entryGoes();
        removeAnswersTheValue();
        joinTakesTheFirst();
        joinAnswersOne();
        joinWithoutChange();
        stepOfATask();
        lookAtATask();
        lookAtAPage();
        CHECK.end();
    }

    private static void neighboursOnTheRight() {
        CHECK.says("An ordered index whose nodes know their neighbours on the right");
        Play play = Trees.full();
        for (int level = 3; level >= 0; level--) {
            int page = play.tree.root();
            for (int down = 3; down > level; down--) {
                page = play.tree.entry(page, 0, true);
            }
            int low = -1;
            int nodes = 0;
            for (; page != -1; page = play.tree.page(page, 4)) {
                CHECK.due("LOW of page " + page + " is the HIGH before", play.tree.page(page, 2), low);
                low = play.tree.page(page, 3);
                nodes++;
            }
            CHECK.due("the last HIGH", low, 999);
            CHECK.due("nodes of level " + level, nodes, new int[] {16, 5, 2, 1}[level]);
        }
    }

    private static void fewLocks() {
        CHECK.says("with few locks");
        Play play = Trees.threeLevels();
        int[] keys = {10, 45, 75, 135};
        for (int task = 0; task < 4; task++) {
            play.begin(task, task == 0 ? Play.FIND : Play.PUT, keys[task], 7);
        }
        for (int round = 0; round < 2; round++) {
            for (int task = 0; task < 4; task++) {
                play.step(task);
            }
            CHECK.due("nobody locks on the way down", locks(play), 0);
        }
        CHECK.row("FIND never locks", play.steps(0, 1), 2);
        for (int task = 1; task < 4; task++) {
            CHECK.row("LOCK, HOLD", play.steps(task, 2), 0, 0);
            CHECK.due("one lock for each task, at a leaf", locks(play), task);
        }
        for (int task = 1; task < 4; task++) {
            CHECK.row("finished", play.steps(task, 1), 2);
            CHECK.due("it is unlocked", locks(play), 3 - task);
        }
    }

    private static int locks(Play play) {
        int many = 0;
        for (int page = 0; page < 24; page++) {
            many += play.tree.page(page, 6) >= 0 ? 1 : 0;
        }
        return many;
    }

    private static void smallNodesAreJoined() {
        CHECK.says("nodes that have become small are joined with their neighbours");
        Play play = Trees.threeLevels();
        for (int key = 140; key > 10; key -= 10) {
            play.remove(key);
            while (play.tree.queued() > 0) {
                play.join();
            }
        }
        CHECK.due("one key is left", play.tree.under(play.tree.root()), 1);
        CHECK.due("it is found", play.find(10), 100);
        CHECK.due("the ROOT is a leaf again", play.tree.page(play.tree.root(), 1), 0);
        CHECK.due("the other pages are free", play.freePages(), 23);
    }

    private static void pageIsUsedAgain() {
        CHECK.says("a page is used again only when no task can come to it any more");
        Play play = Trees.twoLeaves();
        play.remove(50);
        play.begin(0, Play.FIND, 40, 0);
        play.steps(0, 1);
        CHECK.due("task 0 comes to page 1", play.tree.look(0, 2), 1);
        CHECK.due("page 1 into page 0, and page 2 dies", play.join(), 1);
        play.putAll(50);
        CHECK.due("page 1 is not used", play.tree.page(1, 0), 2);
        CHECK.due("page 2 is not used", play.tree.page(2, 0), 2);
        CHECK.due("page 3 is", play.tree.page(3, 0), 1);
        CHECK.due("page 4 is", play.tree.page(4, 0), 1);
        CHECK.due("task 0 finds its key", play.end(0), 400);
        play.putAll(60, 70, 80);
        CHECK.due("now page 1 is used", play.tree.page(1, 0), 1);
        CHECK.due("page 2 is free", play.tree.page(2, 0), 0);
    }

    private static void freeNodeOrDead() {
        CHECK.says("a page is FREE, a NODE, or DEAD");
        Play play = Trees.twoLeaves();
        play.remove(50);
        play.begin(0, Play.FIND, 40, 0);
        CHECK.due("a NODE", play.tree.page(1, 0), 1);
        CHECK.due("joined", play.join(), 1);
        CHECK.due("DEAD", play.tree.page(1, 0), 2);
        play.end(0);
        CHECK.due("FREE", play.tree.page(1, 0), 0);
        play.putAll(50);
        CHECK.due("a NODE again", play.tree.page(1, 0), 1);
    }

    private static void levels() {
        CHECK.says("A node has a LEVEL (0: a LEAF)");
        Play play = Trees.threeLevels();
        int[] levels = {0, 0, 1, 0, 0, 0, 1, 2};
        for (int page = 0; page < 8; page++) {
            CHECK.due("level of page " + page, play.tree.page(page, 1), levels[page]);
        }
    }

    private static void lowAndHigh() {
        CHECK.says("a LOW and a HIGH (its keys are above LOW and at most HIGH), a RIGHT");
        Play play = Trees.threeLeaves();
        CHECK.row("page 0", play.page(0), 1, 0, -1, 30, 1, 3, -1);
        CHECK.row("page 1", play.page(1), 1, 0, 30, 60, 3, 3, -1);
        CHECK.row("page 3", play.page(3), 1, 0, 60, 999, -1, 2, -1);
        CHECK.row("page 2", play.page(2), 1, 1, -1, 999, -1, 3, -1);
    }

    private static void leafEntries() {
        CHECK.says("up to 4 ENTRIES by rising keys: a leaf's have a key and its value");
        Play play = new Play();
        play.put(30, 7);
        play.put(10, 8);
        play.put(40, 9);
        play.put(20, 6);
        CHECK.row("entries", play.entries(0), 10, 8, 20, 6, 30, 7, 40, 9);
    }

    private static void innerEntries() {
        CHECK.says("others' a BOUND (the last one's is HIGH) and a CHILD, a page");
        Play play = Trees.threeLevels();
        CHECK.row("page 2", play.entries(2), 30, 0, 60, 1, 90, 3);
        CHECK.row("page 6", play.entries(6), 120, 4, 999, 5);
        CHECK.row("page 7", play.entries(7), 90, 2, 999, 6);
    }

    private static void childFor() {
        CHECK.says("The child FOR a key is that of the first entry whose bound is not below it");
        Play play = Trees.threeLeaves();
        int[] keys = {5, 30, 31, 60, 61};
        int[] children = {0, 0, 1, 1, 3};
        for (int k = 0; k < keys.length; k++) {
            play.begin(0, Play.FIND, keys[k], 0);
            play.steps(0, 1);
            CHECK.due("for " + keys[k], play.tree.look(0, 2), children[k]);
            play.end(0);
        }
    }

    private static void placeKeyAndLevel() {
        CHECK.says("A task that is not idle has a PLACE (a page), a key that it SEEKS, the level that it WANTS");
        Play play = Trees.threeLevels();
        play.begin(2, Play.PUT, 115, 7);
        CHECK.row("at the ROOT", play.task(2), 0, Play.SEARCH, 7, 115, 0);
        play.steps(2, 1);
        CHECK.row("one level below", play.task(2), 0, Play.SEARCH, 6, 115, 0);
        play.steps(2, 1);
        CHECK.row("at the leaf", play.task(2), 0, Play.SEARCH, 4, 115, 0);
        CHECK.row("task 1 is idle", play.task(1), 1, -1, -1, -1, -1);
    }

    private static void phases() {
        CHECK.says("and a PHASE: SEARCH, LOCK, or HOLD");
        for (int operation = Play.PUT; operation <= Play.JOIN; operation++) {
            Play play = Trees.twoLeaves();
            play.remove(50);
            play.begin(0, operation, 40, 7);
            int down = operation == Play.JOIN ? 1 : 2;
            for (int k = 0; k < down; k++) {
                CHECK.due("SEARCH", play.tree.look(0, 1), Play.SEARCH);
                play.step(0);
            }
            CHECK.due("LOCK", play.tree.look(0, 1), Play.LOCK);
            play.step(0);
            CHECK.due("HOLD", play.tree.look(0, 1), Play.HOLD);
            CHECK.row("finished", play.steps(0, 1), 2);
        }
    }

    private static void searchChangesNoNode() {
        CHECK.says("SEARCH: it looks at the node at its place");
        Play play = Trees.threeLevels();
        play.begin(0, Play.PUT, 105, 7);
        for (int k = 0; k < 3; k++) {
            int[][] before = nodes(play);
            CHECK.row("step", play.steps(0, 1), 0);
            for (int page = 0; page < 24; page++) {
                CHECK.row("page " + page + " is as it was", play.page(page), before[page]);
            }
        }
    }

    private static int[][] nodes(Play play) {
        int[][] rows = new int[24][];
        for (int page = 0; page < 24; page++) {
            rows[page] = play.page(page);
        }
        return rows;
    }

    private static void wantedOne() {
        CHECK.says("If it is the wanted one: FIND is FINISHED, with the value of its key, or -1; for all others the phase is LOCK");
        for (int operation = Play.FIND; operation <= Play.REMOVE; operation++) {
            Play play = new Play();
            play.put(5, 50);
            play.begin(0, operation, 5, 7);
            CHECK.row("the ROOT is a leaf", play.steps(0, 1), operation == Play.FIND ? 2 : 0);
            CHECK.due("LOCK, or idle", play.tree.look(0, 1), operation == Play.FIND ? -1 : Play.LOCK);
            CHECK.due("the value is as it was", play.tree.entry(0, 0, true), 50);
        }
    }

    /** Between LOCK and HOLD of task 0 nothing can change its node; before LOCK it can. */
    private static void holdLooksAgain() {
        CHECK.says("HOLD: it looks again");
        Play play = new Play();
        play.put(5, 50);
        play.begin(0, Play.REMOVE, 5, 0);
        play.steps(0, 1);
        play.put(5, 51);
        CHECK.row("LOCK, HOLD", play.steps(0, 2), 0, 2);
        CHECK.due("what is there now", play.tree.answer(0), 51);
    }

    private static void putFinishedWithoutSplit() {
        CHECK.says("If it did not split, it is FINISHED");
        Play play = new Play();
        for (int many = 1; many <= 4; many++) {
            play.begin(0, Play.PUT, 10 * many, many);
            CHECK.row("finished", play.steps(0, 3), 0, 0, 2);
            CHECK.due("idle", play.tree.look(0, 0), 1);
        }
        play.begin(0, Play.PUT, 50, 5);
        CHECK.row("it splits: it is not", play.steps(0, 3), 0, 0, 3);
        CHECK.due("not idle", play.tree.look(0, 0), 0);
    }

    private static void splitMakesANode() {
        CHECK.says("To SPLIT: a new node of its level, the free page with the least number, gets the upper 2 entries, its HIGH and RIGHT");
        Play play = Trees.threeLeaves();
        play.putAll(41);
        play.begin(0, Play.PUT, 42, 420);
        CHECK.row("page 1 splits", play.steps(0, 4), 0, 0, 0, 3);
        CHECK.row("page 1", play.page(1), 1, 0, 30, 42, 4, 3, -1);
        CHECK.row("the new node", play.page(4), 1, 0, 42, 60, 3, 2, -1);
        CHECK.row("lower 3", play.entries(1), 40, 400, 41, 410, 42, 420);
        CHECK.row("upper 2", play.entries(4), 50, 500, 60, 600);
        CHECK.row("nothing is posted yet", play.entries(2), 30, 0, 60, 1, 999, 3);
    }

    private static void goesOnToPost() {
        CHECK.says("Then the task goes on to POST the new page: it seeks that HIGH, wants the next level, and searches from the page in its path");
        Play play = Trees.threeLeaves();
        play.putAll(41);
        play.begin(0, Play.PUT, 42, 420);
        play.steps(0, 4);
        CHECK.row("HIGH 42, level 1, page 2", play.task(0), 0, Play.SEARCH, 2, 42, 1);
        CHECK.row("search, lock, hold", play.steps(0, 3), 0, 0, 2);
        CHECK.row("posted", play.entries(2), 30, 0, 42, 1, 60, 4, 999, 3);
    }

    private static void entryGoes() {
        CHECK.says("Otherwise its entry goes");
        for (int key : new int[] {10, 20, 30}) {
            Play play = Trees.twoLeaves();
            play.remove(key);
            CHECK.due("two are left", play.tree.page(0, 5), 2);
            for (int other : new int[] {10, 20, 30, 40, 50}) {
                CHECK.due("find " + other, play.find(other), other == key ? -1 : 10 * other);
            }
        }
    }

    private static void removeAnswersTheValue() {
        CHECK.says("FINISHED with the value");
        Play play = Trees.twoLeaves();
        for (int key : new int[] {40, 10, 50, 30, 20}) {
            play.begin(1, Play.REMOVE, key, 7);
            CHECK.row("down, search, lock, hold", play.steps(1, 4), 0, 0, 0, 2);
            CHECK.due("the value", play.tree.answer(1), 10 * key);
        }
    }

    private static void joinTakesTheFirst() {
        CHECK.says("JOIN, when it begins, takes the first page out of the queue; its key is that node's HIGH, its level one above that node's");
        Play play = Trees.threeLeaves();
        play.remove(40);
        play.remove(50);
        play.remove(80);
        play.remove(10);
        play.remove(20);
        int[] highs = {60, 999, 30};
        for (int task = 0; task < 3; task++) {
            CHECK.due("queued()", play.tree.queued(), 3 - task);
            play.begin(task, Play.JOIN, 0, 0);
            CHECK.due("it is out when the JOIN begins", play.tree.queued(), 2 - task);
            CHECK.row("key and level", play.task(task), 0, Play.SEARCH, 2, highs[task], 1);
        }
    }

    private static void joinAnswersOne() {
        CHECK.says("FINISHED with 1");
        Play joined = Trees.threeLeaves();
        joined.remove(80);
        joined.begin(0, Play.JOIN, 0, 0);
        CHECK.row("search, lock, hold", joined.steps(0, 3), 0, 0, 2);
        CHECK.due("one of two", joined.tree.answer(0), 1);
        Play shared = Trees.threeLeaves();
        shared.putAll(45);
        shared.remove(80);
        CHECK.due("shared", shared.join(), 1);
        CHECK.row("A", shared.entries(1), 40, 400, 45, 450, 50, 500);
        CHECK.row("B", shared.entries(3), 60, 600, 70, 700);
    }

    private static void joinWithoutChange() {
        CHECK.says("Its change, at the node P: if that page is DEAD, or no child of P, or P has but one entry: FINISHED with 0");
        Play play = Trees.threeLeaves();
        play.remove(80);
        play.begin(0, Play.JOIN, 0, 0);
        play.remove(70);
        CHECK.due("page 3 is queued once more", play.tree.queued(), 1);
        CHECK.due("joined", play.join(), 1);
        CHECK.due("page 3 is DEAD", play.tree.page(3, 0), 2);
        int[] before = play.entries(2);
        CHECK.due("nothing to join", play.end(0), 0);
        CHECK.row("P is as it was", play.entries(2), before);
    }

    private static void stepOfATask() {
        CHECK.says("A task's step");
        Play play = Trees.twoLeaves();
        for (int task = 0; task < 3; task++) {
            play.begin(task, Play.PUT, 40, task);
        }
        for (int task = 0; task < 3; task++) {
            CHECK.row("a step of this task", play.steps(task, 1), 0);
            for (int other = 0; other < 3; other++) {
                CHECK.due("place of " + other, play.tree.look(other, 2), other <= task ? 1 : 2);
                CHECK.due("steps of " + other, play.tree.look(other, 5), other <= task ? 1 : 0);
            }
        }
    }

    private static void lookAtATask() {
        CHECK.says("Of a task: 0 whether it is idle (1 or 0), 1 its phase (0 SEARCH, 1 LOCK, 2 HOLD), 2 its place, 3 its key, 4 the level that it wants");
        Play play = new Play();
        play.putAll(10, 20, 30, 40);
        play.begin(1, Play.PUT, 50, 7);
        CHECK.row("begun", play.task(1), 0, 0, 0, 50, 0);
        play.steps(1, 1);
        CHECK.row("LOCK", play.task(1), 0, 1, 0, 50, 0);
        play.steps(1, 1);
        CHECK.row("HOLD", play.task(1), 0, 2, 0, 50, 0);
        play.steps(1, 1);
        CHECK.row("to post", play.task(1), 0, 0, 0, 30, 1);
        play.steps(1, 1);
        CHECK.row("a new ROOT", play.task(1), 0, 0, 2, 30, 1);
        play.end(1);
        CHECK.row("idle", play.task(1), 1, -1, -1, -1, -1);
    }

    private static void lookAtAPage() {
        CHECK.says("of a node: 1 its level, 2 LOW, 3 HIGH, 4 RIGHT, 5 how many entries, 6 who locks it");
        Play play = Trees.threeLevels();
        play.begin(2, Play.PUT, 75, 7);
        play.steps(2, 4);
        CHECK.row("a leaf", play.page(3), 1, 0, 60, 90, 4, 3, 2);
        CHECK.row("its parent", play.page(2), 1, 1, -1, 90, 6, 3, -1);
        CHECK.row("the parent's RIGHT", play.page(6), 1, 1, 90, 999, -1, 2, -1);
        CHECK.row("the ROOT", play.page(7), 1, 2, -1, 999, -1, 2, -1);
        CHECK.row("a free page", play.page(8), 0, -2, -2, -2, -2, -2, -2);
    }
}
