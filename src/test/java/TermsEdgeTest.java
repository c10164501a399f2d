/** The boundary cases that "Terms" names before the steps: keys, pages, nodes, the ROOT, tasks. */
public final class TermsEdgeTest {
    private static final Check CHECK = new Check();

    public static void main(String[] args) {
        calls512();
        keys();
        values();
        pages();
        pageZeroAtFirst();
        aboveLow();
        atMostHigh();
        noRight();
        fourEntriesOfALeaf();
        fourEntriesAboveLeaves();
        risingKeys();
        lastBoundIsHigh();
        childForAKey();
        lockedByOneTask();
        rootAtFirst();
        fourTasks();
        beginsAtRoot();
        beginsWithoutPath();
        pathIsTheLastWayDown();
        restartWithoutPath();
        restartKeepsKeyAndLevel();
        CHECK.end();
    }

    private static void calls512() {
        CHECK.says("An object is used for at most 512 calls after it has been made");
        LinkTree tree = new LinkTree();
        int calls = 0;
        int value = 0;
        while (calls + 5 <= 508) {
            tree.begin(0, Play.PUT, 7, ++value);
            CHECK.due("SEARCH", tree.step(0), 0);
            CHECK.due("LOCK", tree.step(0), 0);
            CHECK.due("HOLD", tree.step(0), 2);
            CHECK.due("answer", tree.answer(0), value == 1 ? -1 : value - 1);
            calls += 5;
        }
        tree.begin(3, Play.FIND, 7, 0);
        tree.begin(2, Play.FIND, 8, 0);
        calls += 2;
        while (calls < 510) {
            CHECK.due("root()", tree.root(), 0);
            calls++;
        }
        CHECK.due("the 511th call", tree.step(3), 2);
        CHECK.due("the 512th call", tree.answer(3), value);
    }

    private static void keys() {
        CHECK.says("KEYS are 0 .. 999");
        for (Play play : new Play[] {new Play(), Trees.threeLevels()}) {
            CHECK.due("put 0", play.put(0, 5), -1);
            CHECK.due("put 999", play.put(999, 6), -1);
            CHECK.due("find 0", play.find(0), 5);
            CHECK.due("find 999", play.find(999), 6);
            CHECK.due("the first key", play.tree.entry(Trees.leafOf(play, 0), 0, false), 0);
            int last = Trees.leafOf(play, 999);
            CHECK.due("the last key", play.tree.entry(last, play.tree.page(last, 5) - 1, false), 999);
            CHECK.due("remove 0", play.remove(0), 5);
            CHECK.due("remove 999", play.remove(999), 6);
            CHECK.due("find 0 no more", play.find(0), -1);
            CHECK.due("find 999 no more", play.find(999), -1);
        }
        Play split = new Play();
        split.putAll(0, 1, 998, 999, 997);
        CHECK.row("the lower keys", split.entries(0), 0, 0, 1, 10, 997, 9970);
        CHECK.row("the upper keys", split.entries(1), 998, 9980, 999, 9990);
    }

    private static void values() {
        CHECK.says("VALUES ints");
        for (int value : new int[] {Integer.MIN_VALUE, Integer.MAX_VALUE, 0, -1, -2}) {
            Play play = new Play();
            CHECK.due("put", play.put(5, value), -1);
            CHECK.due("entry", play.tree.entry(0, 0, true), value);
            CHECK.due("find", play.find(5), value);
            CHECK.due("put again", play.put(5, value), value);
            CHECK.due("one entry", play.tree.under(0), 1);
            CHECK.due("remove", play.remove(5), value);
            CHECK.due("no entry", play.tree.under(0), 0);
        }
    }

    private static void pages() {
        CHECK.says("PAGES are 0 .. 23");
        Play play = Trees.leaves(15);
        CHECK.due("one page is free", play.freePages(), 1);
        CHECK.due("page 23", play.tree.page(23, 0), 0);
        Trees.splitLeaf(play, 10);
        CHECK.row("page 23 is used", play.page(23), 1, 0, 12, 30, 1, 2, -1);
        CHECK.due("no page is free", play.freePages(), 0);
        CHECK.due("there are 24 nodes", nodes(play), 24);
        CHECK.badArgument("page 24", () -> play.tree.page(24, 0));
        play.putAll(131);
        CHECK.due("there is no 25th node", play.put(132, 1), -2);
    }

    private static int nodes(Play play) {
        int many = 0;
        for (int page = 0; page < 24; page++) {
            many += play.tree.page(page, 0) == 1 ? 1 : 0;
        }
        return many;
    }

    private static void pageZeroAtFirst() {
        CHECK.says("(page 0 is a node at first, all others are free)");
        Play play = new Play();
        CHECK.due("page 0", play.tree.page(0, 0), 1);
        for (int page = 1; page < 24; page++) {
            CHECK.due("page " + page, play.tree.page(page, 0), 0);
        }
    }

    private static void aboveLow() {
        CHECK.says("its keys are above LOW");
        Play play = Trees.threeLeaves();
        play.putAll(31);
        CHECK.row("31 is above LOW 30", play.entries(1), 31, 310, 40, 400, 50, 500, 60, 600);
        play.remove(30);
        play.put(30, 5);
        CHECK.row("30 is not", play.entries(0), 10, 100, 20, 200, 30, 5);
        CHECK.due("it is found where it is", play.find(30), 5);
    }

    private static void atMostHigh() {
        CHECK.says("and at most HIGH");
        Play play = Trees.threeLeaves();
        play.remove(60);
        CHECK.due("60 is at most HIGH 60", play.put(60, 6), -1);
        CHECK.row("so it is in page 1", play.entries(1), 40, 400, 50, 500, 60, 6);
        CHECK.due("61 is not", play.put(61, 7), -1);
        CHECK.row("so it is in page 3", play.entries(3), 61, 7, 70, 700, 80, 800);
    }

    private static void noRight() {
        CHECK.says("the page of the next node of its level, or -1");
        Play play = Trees.threeLevels();
        int[] rights = {1, 3, 6, 4, 5, -1, -1, -1};
        for (int page = 0; page < 8; page++) {
            CHECK.due("RIGHT of page " + page, play.tree.page(page, 4), rights[page]);
        }
        play.putAll(150, 160, 170);
        CHECK.due("a split hands it on", play.tree.page(5, 4), 8);
        CHECK.due("to the last one", play.tree.page(8, 4), -1);
        play.remove(170);
        CHECK.due("joined", play.join(), 1);
        CHECK.due("page 5 is the last one again", play.tree.page(5, 4), -1);
    }

    private static void fourEntriesOfALeaf() {
        CHECK.says("up to 4 ENTRIES");
        Play play = new Play();
        for (int many = 1; many <= 4; many++) {
            play.putAll(10 * many);
            CHECK.row("one node", play.page(0), 1, 0, -1, 999, -1, many, -1);
            CHECK.due("23 free pages", play.freePages(), 23);
        }
        play.putAll(50);
        CHECK.due("three are left in the node", play.tree.page(0, 5), 3);
        CHECK.due("two are in the new one", play.tree.page(1, 5), 2);
        CHECK.due("a new node and a new root", play.freePages(), 21);
    }

    private static void fourEntriesAboveLeaves() {
        CHECK.says("others' a BOUND (the last one's is HIGH) and a CHILD");
        Play play = Trees.leaves(4);
        CHECK.row("four children", play.entries(2), 30, 0, 60, 1, 90, 3, 999, 4);
        CHECK.due("one level above the leaves", play.tree.page(play.tree.root(), 1), 1);
        play.putAll(120, 130, 140);
        CHECK.due("a fifth one: three are left in the node", play.tree.page(2, 5), 3);
        CHECK.due("two are in the new one", play.tree.page(6, 5), 2);
        CHECK.due("two levels above the leaves", play.tree.page(play.tree.root(), 1), 2);
    }

    private static void risingKeys() {
        CHECK.says("by rising keys");
        int[] keys = {0, 5, 6, 999};
        for (int order = 0; order < 256; order++) {
            int[] drawn = {order & 3, order >> 2 & 3, order >> 4 & 3, order >> 6 & 3};
            if (((1 << drawn[0]) | (1 << drawn[1]) | (1 << drawn[2]) | (1 << drawn[3])) == 15) {
                Play play = new Play();
                for (int k : drawn) {
                    play.putAll(keys[k]);
                }
                CHECK.row("order " + order, play.entries(0), 0, 0, 5, 50, 6, 60, 999, 9990);
            }
        }
    }

    private static void lastBoundIsHigh() {
        CHECK.says("(the last one's is HIGH)");
        Play play = Trees.threeLevels();
        for (int page : new int[] {2, 6, 7}) {
            int last = play.tree.page(page, 5) - 1;
            CHECK.due("page " + page, play.tree.entry(page, last, false), play.tree.page(page, 3));
        }
        CHECK.due("HIGH of page 2", play.tree.page(2, 3), 90);
        CHECK.due("HIGH of page 6", play.tree.page(6, 3), 999);
        CHECK.due("LOW of page 6", play.tree.page(6, 2), 90);
    }

    private static void childForAKey() {
        CHECK.says("that of the first entry whose bound is not below it");
        int[] keys = {0, 1, 29, 30, 31, 59, 60, 61, 998, 999};
        int[] children = {0, 0, 0, 0, 1, 1, 1, 3, 3, 3};
        for (int k = 0; k < keys.length; k++) {
            Play play = Trees.threeLeaves();
            play.begin(0, Play.FIND, keys[k], 0);
            CHECK.row("from the root", play.steps(0, 1), 0);
            CHECK.due("for " + keys[k], play.tree.look(0, 2), children[k]);
        }
    }

    private static void lockedByOneTask() {
        CHECK.says("A node may be LOCKED by one task");
        for (int task = 0; task < 4; task++) {
            Play play = new Play();
            for (int k = 0; k < 4; k++) {
                play.begin(k, Play.PUT, 10 + k, k);
                play.steps(k, 1);
            }
            CHECK.due("by nobody", play.tree.page(0, 6), -1);
            CHECK.row("it locks", play.steps(task, 1), 0);
            for (int k = 0; k < 4; k++) {
                if (k != task) {
                    CHECK.row("task " + k + " does not", play.steps(k, 1), 1);
                }
                CHECK.due("by task " + task, play.tree.page(0, 6), task);
            }
            CHECK.row("it is finished", play.steps(task, 1), 2);
            CHECK.due("by nobody", play.tree.page(0, 6), -1);
        }
    }

    private static void rootAtFirst() {
        CHECK.says("The ROOT is a page, 0 at first: a leaf without entries, LOW -1, HIGH 999, RIGHT -1");
        Play play = new Play();
        CHECK.due("root()", play.tree.root(), 0);
        CHECK.row("page 0", play.page(0), 1, 0, -1, 999, -1, 0, -1);
        CHECK.due("find 0", play.find(0), -1);
        CHECK.due("find 999", play.find(999), -1);
        CHECK.due("remove", play.remove(5), -1);
        CHECK.row("page 0", play.page(0), 1, 0, -1, 999, -1, 0, -1);
    }

    private static void fourTasks() {
        CHECK.says("TASKS 0 .. 3 are IDLE or do an OPERATION: 0 FIND, 1 PUT, 2 REMOVE a key, 3 JOIN");
        for (int shift = 0; shift < 4; shift++) {
            Play play = Trees.twoLeaves();
            play.remove(50);
            for (int task = 0; task < 4; task++) {
                play.begin(task, (task + shift) % 4, 20, 7);
            }
            int[] answers = new int[4];
            for (int task = 0; task < 4; task++) {
                CHECK.due("all four are at work", play.tree.look(task, 0), 0);
            }
            for (int operation = 0; operation < 4; operation++) {
                int task = (operation + 4 - shift) % 4;
                answers[operation] = play.end(task);
                CHECK.due("task " + task + " is idle", play.tree.look(task, 0), 1);
            }
            CHECK.row("FIND, PUT, REMOVE, JOIN", answers, 200, 200, 7, 1);
        }
    }

    private static void beginsAtRoot() {
        CHECK.says("One that begins has the place ROOT, its key, the level 0, no path, the phase SEARCH");
        Play play = Trees.threeLevels();
        play.begin(0, Play.PUT, 145, 0);
        play.steps(0, 3);
        CHECK.row("far down", play.task(0), 0, Play.LOCK, 5, 145, 0);
        play.end(0);
        for (int operation = 0; operation < 3; operation++) {
            play.begin(0, operation, 999 * (operation % 2), 0);
            CHECK.row("begun", play.task(0), 0, Play.SEARCH, 7, 999 * (operation % 2), 0);
            play.end(0);
        }
    }

    /** The FIND has gone down from page 2, the root of that time; the PUT after it has not. */
    private static void beginsWithoutPath() {
        CHECK.says("no path");
        Play play = Trees.twoLeaves();
        CHECK.due("by page 2 to a leaf", play.whole(0, Play.FIND, 10, 0), 100);
        play.remove(50);
        CHECK.due("joined", play.join(), 1);
        CHECK.due("page 0 is the root", play.tree.root(), 0);
        play.begin(0, Play.PUT, 50, 500);
        CHECK.row("it splits", play.steps(0, 3), 0, 0, 3);
        CHECK.row("posts from the ROOT", play.task(0), 0, Play.SEARCH, 0, 30, 1);
    }

    /** Page 2 has split, and page 6 is not posted: the way down to leaf 5 is from page 6. */
    private static void pathIsTheLastWayDown() {
        CHECK.says("for each level, the page at which it last went from there to a child, or none");
        Play play = Trees.leaves(4);
        play.putAll(120, 130);
        play.begin(1, Play.PUT, 140, 1400);
        play.steps(1, 7);
        CHECK.row("page 2 has a RIGHT", play.page(2), 1, 1, -1, 90, 6, 3, -1);
        play.putAll(150, 160);
        play.begin(0, Play.PUT, 170, 1700);
        CHECK.row("right at page 2, down from page 6, split", play.steps(0, 5), 0, 0, 0, 0, 3);
        CHECK.row("from page 6", play.task(0), 0, Play.SEARCH, 6, 150, 1);
        CHECK.due("posted", play.end(0), -1);
        CHECK.row("in page 6", play.entries(6), 120, 4, 150, 5, 999, 7);
        CHECK.row("no second way to the right", play.counts(0), 8, 0, 1, 0);
    }

    private static void restartWithoutPath() {
        CHECK.says("To RESTART: SEARCH from the ROOT without a path");
        Play play = Trees.twoLeaves();
        play.remove(50);
        play.begin(0, Play.PUT, 45, 450);
        play.steps(0, 1);
        CHECK.due("down from page 2 to page 1", play.tree.look(0, 2), 1);
        CHECK.due("joined", play.join(), 1);
        CHECK.row("a restart", play.steps(0, 1), 0);
        CHECK.row("from the ROOT", play.task(0), 0, Play.SEARCH, 0, 45, 0);
        CHECK.row("it splits", play.steps(0, 3), 0, 0, 3);
        CHECK.row("and posts from the ROOT, not from page 2", play.task(0), 0, Play.SEARCH, 0, 30, 1);
    }

    private static void restartKeepsKeyAndLevel() {
        CHECK.says("it keeps its key and level");
        Play play = Trees.threeLevels();
        play.remove(50);
        play.remove(60);
        play.begin(0, Play.JOIN, 0, 0);
        CHECK.row("JOIN of page 1", play.task(0), 0, Play.SEARCH, 7, 60, 1);
        play.remove(130);
        CHECK.due("page 5 into page 4", play.join(), 1);
        CHECK.due("page 6 into page 2", play.join(), 1);
        CHECK.due("page 7 is dead", play.tree.page(7, 0), 2);
        CHECK.row("a restart", play.steps(0, 1), 0);
        CHECK.row("with key and level", play.task(0), 0, Play.SEARCH, 2, 60, 1);
        CHECK.row("page 1 with page 3", play.steps(0, 3), 0, 0, 2);
        CHECK.due("joined", play.tree.answer(0), 1);
        CHECK.row("one restart", play.counts(0), 4, 0, 0, 1);
    }
}
