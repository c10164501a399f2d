/** Trees that several tests begin with, all tasks idle. Each key has ten times itself as its value. */
final class Trees {
    private Trees() {
    }

    /** Leaves 0: 10 20 30, 1: 40 50 under root 2. */
    static Play twoLeaves() {
        Play play = new Play();
        play.putAll(10, 20, 30, 40, 50);
        return play;
    }

    /** Leaves 0: 10 20 30, 1: 40 50 60, 3: 70 80 under root 2. */
    static Play threeLeaves() {
        Play play = new Play();
        play.putAll(10, 20, 30, 40, 50, 60, 70, 80);
        return play;
    }

    /** Root 7 over 2 (leaves 0, 1, 3 of three keys) and 6 (leaves 4: 100 110 120, 5: 130 140). */
    static Play threeLevels() {
        Play play = new Play();
        play.putAll(10, 20, 30, 40, 50, 60, 70, 80, 90, 100, 110, 120, 130, 140);
        return play;
    }

    /** Keys 10, 20 ..: leaves of three keys but for the last one, which has two. */
    static Play leaves(int many) {
        Play play = new Play();
        for (int key = 10; key <= 10 * (3 * many - 1); key += 10) {
            play.putAll(key);
        }
        return play;
    }

    /** Splits the leaf of three keys that begins with a key. */
    static void splitLeaf(Play play, int first) {
        play.putAll(first + 1, first + 2);
    }

    /** All 24 pages are nodes: 16 leaves of 10 .. 470 under three levels. */
    static Play full() {
        return leaves(16);
    }

    /** The full tree, and its leaf 0 is full as well: 10 11 20 30. */
    static Play fullWithFullLeaf() {
        Play play = full();
        play.putAll(11);
        return play;
    }

    /** Four full nodes of level 1 under a full root of level 2, in 21 pages. */
    static Play fullInnerNodes() {
        Play play = leaves(13);
        splitLeaf(play, 10);
        splitLeaf(play, 100);
        splitLeaf(play, 190);
        return play;
    }

    /** Keys 60 down to 31: leaves of two keys (HIGH 999, 58, 56 ..) but for the first one. */
    static Play fallingKeys() {
        Play play = new Play();
        for (int key = 60; key > 30; key--) {
            play.putAll(key);
        }
        return play;
    }

    /** The page of the leaf in which a key is, or would be. */
    static int leafOf(Play play, int key) {
        for (int page = 0; page < 24; page++) {
            int[] row = play.page(page);
            if (row[0] == 1 && row[1] == 0 && row[2] < key && row[3] >= key) {
                return page;
            }
        }
        throw new AssertionError("no leaf for " + key);
    }

    /** The page of the node that has a page as a child. */
    static int parentOf(Play play, int child) {
        for (int page = 0; page < 24; page++) {
            int[] row = play.page(page);
            for (int k = 0; row[0] == 1 && row[1] > 0 && k < row[5]; k++) {
                if (play.tree.entry(page, k, true) == child) {
                    return page;
                }
            }
        }
        throw new AssertionError("page " + child + " is no child");
    }
}
