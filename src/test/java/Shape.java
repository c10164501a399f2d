/** What must hold of the nodes at any time, whatever the tasks do. */
final class Shape {
    private Shape() {
    }

    /** The first thing that is wrong with a tree, or an empty text. */
    static String fault(Play play) {
        int level = play.tree.page(play.tree.root(), 1);
        int page = play.tree.root();
        for (; level >= 0; level--) {
            String fault = levelFault(play, page, level);
            if (!fault.isEmpty()) {
                return fault;
            }
            page = level > 0 ? play.tree.entry(page, 0, true) : page;
        }
        return childFault(play);
    }

    /** The nodes of a level stand in a row without gaps from LOW -1 to HIGH 999. */
    private static String levelFault(Play play, int first, int level) {
        int low = -1;
        int page = first;
        for (int k = 0; k < 24; k++) {
            int[] row = play.page(page);
            if (row[0] != 1 || row[1] != level || row[2] != low || row[3] <= low) {
                return "page " + page + " does not fit into level " + level;
            }
            if (!keysFit(play, page, row)) {
                return "the entries of page " + page + " do not fit";
            }
            low = row[3];
            if (row[4] == -1) {
                return low == 999 ? "" : "level " + level + " ends early";
            }
            page = row[4];
        }
        return "level " + level + " does not end";
    }

    private static boolean keysFit(Play play, int page, int[] row) {
        int[] entries = play.entries(page);
        int below = row[2];
        for (int k = 0; k < entries.length; k += 2) {
            if (entries[k] <= below || entries[k] > row[3]) {
                return false;
            }
            below = entries[k];
        }
        return row[5] <= 4 && (row[1] == 0 || row[5] > 0 && below == row[3]);
    }

    /** No page is a child twice, and each child is a node of the next level below with a fitting LOW. */
    private static String childFault(Play play) {
        boolean[] isChild = new boolean[24];
        for (int page = 0; page < 24; page++) {
            int[] row = play.page(page);
            if (row[0] != 1 || row[1] == 0) {
                continue;
            }
            int low = row[2];
            int[] entries = play.entries(page);
            for (int k = 0; k < entries.length; k += 2) {
                int child = entries[k + 1];
                int[] below = play.page(child);
                if (isChild[child] || below[0] != 1 || below[1] != row[1] - 1
                        || below[2] != low || below[3] > entries[k]) {
                    return "child " + child + " does not fit under page " + page;
                }
                isChild[child] = true;
                low = entries[k];
            }
        }
        return "";
    }
}
