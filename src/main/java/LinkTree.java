import java.util.NoSuchElementException;

/**
 * An ordered index whose nodes know their neighbours on the right; several tasks search and change
 * it step by step, in any order of their steps.
 */
public final class LinkTree {
    private static final int TASKS = 4;
    private static final int PAGES = 24;
    /** Every level has a page of its own at least, so no task ever wants a level above this one. */
    private static final int TOP_LEVEL = PAGES;
    private static final int TOP_KEY = 999;
    private static final int BELOW_ALL_KEYS = -1;
    private static final int MOST_ENTRIES = 4;
    private static final int FEW_ENTRIES = 2;
    private static final int KEPT_AT_SPLIT = 3;
    private static final int QUEUE_LENGTH = 12;
    private static final int NONE = -1;

    private static final int FIND = 0;
    private static final int PUT = 1;
    private static final int REMOVE = 2;
    private static final int JOIN = 3;
    /** What a PUT goes on with when it has split a node; no caller can begin it. */
    private static final int POST = 4;

    private static final int SEARCH = 0;
    private static final int LOCK = 1;
    private static final int HOLD = 2;

    private static final int GOES_ON = 0;
    private static final int BLOCKED = 1;
    private static final int FINISHED = 2;
    private static final int PUT_CAME_IN = 3;

    private static final int FREE = 0;
    private static final int NODE = 1;
    private static final int DEAD = 2;

    private static final int NOT_THERE = -1;
    private static final int NO_FREE_PAGE = -2;
    private static final int NO_NODE = -2;
    private static final int NOT_JOINED = 0;
    private static final int JOINED = 1;

    private final Node[] nodes;
    /** Stands for every page number that is none; it is DEAD for ever, so who comes to it restarts. */
    private final Node nowhere;
    private final Task[] tasks;
    private final SmallPages small;
    private int rootPage;

    public LinkTree() {
        nodes = new Node[PAGES];
        for (int number = 0; number < PAGES; number++) {
            nodes[number] = new Node(number);
        }
        nowhere = new Node(NONE);
        nowhere.kind = DEAD;
        tasks = new Task[TASKS];
        for (int number = 0; number < TASKS; number++) {
            tasks[number] = new Task(number);
        }
        small = new SmallPages();
        rootPage = 0;
        nodes[0].become(0, BELOW_ALL_KEYS, TOP_KEY, NONE);
    }

    public void begin(int task, int operation, int key, int value)
            throws IllegalArgumentException, IllegalStateException {
        if (!isTask(task) || operation < FIND || operation > JOIN) {
            throw new IllegalArgumentException("no such task or operation");
        }
        if (operation != JOIN && (key < 0 || key > TOP_KEY)) {
            throw new IllegalArgumentException("no such key");
        }
        Task t = tasks[task];
        if (!t.idle) {
            throw new IllegalStateException("the task is not idle");
        }
        t.idle = false;
        t.operation = operation;
        t.key = key;
        t.value = value;
        t.level = 0;
        t.searchAnew(rootPage);
        if (operation == JOIN) {
            chooseSmallPage(t);
        }
    }

    public int step(int task) throws IllegalArgumentException, IllegalStateException {
        if (!isTask(task)) {
            throw new IllegalArgumentException("no such task");
        }
        Task t = tasks[task];
        if (t.idle) {
            throw new IllegalStateException("the task is idle");
        }
        int outcome = advance(t);
        t.steps++;
        if (outcome == BLOCKED) {
            t.blocks++;
        }
        return outcome;
    }

    public int answer(int task) throws IllegalArgumentException, NoSuchElementException {
        if (!isTask(task)) {
            throw new IllegalArgumentException("no such task");
        }
        Task t = tasks[task];
        if (!t.hasAnswered) {
            throw new NoSuchElementException("the task has finished no operation");
        }
        return t.latestAnswer;
    }

    public int look(int task, int what) throws IllegalArgumentException {
        if (!isTask(task) || what < 0 || what > 8) {
            throw new IllegalArgumentException("no such task or thing to look at");
        }
        Task t = tasks[task];
        if (t.idle && what >= 1 && what <= 4) {
            return NONE;
        }
        switch (what) {
            case 0: return t.idle ? 1 : 0;
            case 1: return t.phase;
            case 2: return t.place;
            case 3: return t.key;
            case 4: return t.level;
            case 5: return t.steps;
            case 6: return t.blocks;
            case 7: return t.rights;
            default: return t.restarts;
        }
    }

    public int page(int page, int what) throws IllegalArgumentException {
        if (!isPage(page) || what < 0 || what > 6) {
            throw new IllegalArgumentException("no such page or thing to look at");
        }
        Node n = nodes[page];
        if (what > 0 && n.kind != NODE) {
            return NO_NODE;
        }
        switch (what) {
            case 0: return n.kind;
            case 1: return n.level;
            case 2: return n.low;
            case 3: return n.high;
            case 4: return n.right;
            case 5: return n.count;
            default: return n.locker;
        }
    }

    public int entry(int page, int k, boolean second) throws NoSuchElementException {
        Node n = nodeAt(page);
        if (n.kind != NODE || k < 0 || k >= n.count) {
            throw new NoSuchElementException("no such entry");
        }
        return second ? n.seconds[k] : n.keys[k];
    }

    public int root() {
        return rootPage;
    }

    public int queued() {
        return small.count;
    }

    public int under(int page) throws NoSuchElementException {
        Node n = nodeAt(page);
        if (n.kind != NODE) {
            throw new NoSuchElementException("the page is no node");
        }
        return leafEntries(n, 0);
    }

    private static boolean isTask(int task) {
        return task >= 0 && task < TASKS;
    }

    private static boolean isPage(int page) {
        return page >= 0 && page < PAGES;
    }

    private Node nodeAt(int page) {
        return isPage(page) ? nodes[page] : nowhere;
    }

    private int leafEntries(Node n, int depth) {
        if (n.kind != NODE || depth > TOP_LEVEL) {
            return 0;
        }
        if (n.level == 0) {
            return n.count;
        }
        int sum = 0;
        for (int k = 0; k < n.count; k++) {
            sum += leafEntries(nodeAt(n.seconds[k]), depth + 1);
        }
        return sum;
    }

    private void chooseSmallPage(Task t) {
        int page = small.takeFirst();
        if (page == NONE || page == rootPage) {
            t.subject = NONE;
            t.key = 0;
            return;
        }
        Node n = nodeAt(page);
        t.subject = page;
        t.key = n.high;
        t.level = n.level + 1;
    }

    private int advance(Task t) {
        if (t.operation == JOIN && t.subject == NONE) {
            return finish(t, NOT_JOINED);
        }
        Node n = nodeAt(t.place);
        switch (t.phase) {
            case SEARCH: return search(t, n);
            case LOCK: return lock(t, n);
            default: return hold(t, n);
        }
    }

    private int search(Task t, Node n) {
        if (n.isWrongFor(t.key)) {
            return restart(t);
        }
        if (n.high < t.key) {
            return goRight(t, n);
        }
        if (n.level > t.level) {
            t.note(n.level, n.number);
            t.place = n.childFor(t.key);
            return GOES_ON;
        }
        if (n.level < t.level) {
            return searchBelowWanted(t);
        }
        if (t.operation == FIND) {
            return finish(t, n.valueOf(t.key));
        }
        t.phase = LOCK;
        return GOES_ON;
    }

    private int searchBelowWanted(Task t) {
        if (t.operation == JOIN) {
            return finish(t, NOT_JOINED);
        }
        Node oldRoot = nodeAt(rootPage);
        if (oldRoot.level >= t.level) {
            return restart(t);
        }
        Node newRoot = leastFreeNode();
        if (newRoot == null) {
            return finish(t, NOT_THERE);
        }
        newRoot.become(oldRoot.level + 1, BELOW_ALL_KEYS, TOP_KEY, NONE);
        newRoot.insert(0, TOP_KEY, rootPage);
        rootPage = newRoot.number;
        t.place = rootPage;
        return GOES_ON;
    }

    private int lock(Task t, Node n) {
        // A DEAD page is locked too: only the look in HOLD finds out that it is DEAD.
        if (n.locker != NONE && n.locker != t.number) {
            return BLOCKED;
        }
        n.locker = t.number;
        t.phase = HOLD;
        return GOES_ON;
    }

    private int hold(Task t, Node n) {
        int outcome;
        if (n.isWrongFor(t.key)) {
            outcome = restart(t);
        } else if (n.high < t.key) {
            t.phase = LOCK;
            outcome = goRight(t, n);
        } else if (t.operation == PUT) {
            outcome = put(t, n);
        } else if (t.operation == REMOVE) {
            outcome = remove(t, n);
        } else if (t.operation == JOIN) {
            outcome = join(t, n);
        } else {
            outcome = post(t, n);
        }
        if (outcome != BLOCKED) {
            n.locker = NONE;
        }
        return outcome;
    }

    private int restart(Task t) {
        t.restarts++;
        t.searchAnew(rootPage);
        return GOES_ON;
    }

    private int goRight(Task t, Node n) {
        t.rights++;
        t.place = n.right;
        return GOES_ON;
    }

    private int finish(Task t, int result) {
        t.idle = true;
        t.hasAnswered = true;
        t.latestAnswer = result;
        for (int number = 0; number < PAGES; number++) {
            nodes[number].awaitNoMore(t.number);
        }
        return FINISHED;
    }

    private int put(Task t, Node leaf) {
        int at = leaf.firstNotBelow(t.key);
        if (leaf.hasKeyAt(at, t.key)) {
            int old = leaf.seconds[at];
            leaf.seconds[at] = t.value;
            return finish(t, old);
        }
        if (leaf.count < MOST_ENTRIES) {
            leaf.insert(at, t.key, t.value);
            return finish(t, NOT_THERE);
        }
        Node fresh = leastFreeNode();
        if (fresh == null) {
            return finish(t, NO_FREE_PAGE);
        }
        leaf.insert(at, t.key, t.value);
        split(t, leaf, fresh);
        return PUT_CAME_IN;
    }

    private int post(Task t, Node parent) {
        if (parent.count < MOST_ENTRIES) {
            parent.divideEntry(t.key, t.subject);
            return finish(t, NOT_THERE);
        }
        Node fresh = leastFreeNode();
        if (fresh == null) {
            return finish(t, NOT_THERE);
        }
        parent.divideEntry(t.key, t.subject);
        split(t, parent, fresh);
        return GOES_ON;
    }

    private void split(Task t, Node n, Node fresh) {
        int border = n.keys[KEPT_AT_SPLIT - 1];
        fresh.become(n.level, border, n.high, n.right);
        for (int k = KEPT_AT_SPLIT; k < n.count; k++) {
            fresh.insert(fresh.count, n.keys[k], n.seconds[k]);
        }
        n.count = KEPT_AT_SPLIT;
        n.high = border;
        n.right = fresh.number;
        t.operation = POST;
        t.subject = fresh.number;
        t.key = border;
        t.level = n.level + 1;
        t.phase = SEARCH;
        int noted = t.notedAt(t.level);
        t.place = noted == NONE ? rootPage : noted;
    }

    private int remove(Task t, Node leaf) {
        int at = leaf.firstNotBelow(t.key);
        if (!leaf.hasKeyAt(at, t.key)) {
            return finish(t, NOT_THERE);
        }
        int value = leaf.seconds[at];
        leaf.delete(at);
        if (leaf.count < FEW_ENTRIES && leaf.number != rootPage) {
            small.add(leaf.number);
        }
        return finish(t, value);
    }

    private int join(Task t, Node parent) {
        int at = parent.entryOfChild(t.subject);
        if (nodeAt(t.subject).kind != NODE || at == NONE || parent.count < 2) {
            return finish(t, NOT_JOINED);
        }
        int left = at + 1 < parent.count ? at : at - 1;
        Node a = nodeAt(parent.seconds[left]);
        Node b = nodeAt(parent.seconds[left + 1]);
        if (a.locker != NONE || b.locker != NONE) {
            return BLOCKED;
        }
        if (a.high != parent.keys[left] || b.high != parent.keys[left + 1]) {
            return finish(t, NOT_JOINED);
        }
        if (a.count + b.count <= MOST_ENTRIES) {
            a.takeAllOf(b);
            die(b, t);
            parent.delete(left);
            parent.seconds[left] = a.number;
        } else {
            a.shareWith(b);
            parent.keys[left] = a.high;
        }
        if (parent.count == 1) {
            lowerOrQueue(parent, t);
        }
        return finish(t, JOINED);
    }

    private void lowerOrQueue(Node parent, Task joiner) {
        if (parent.number == rootPage && parent.right == NONE) {
            rootPage = parent.seconds[0];
            die(parent, joiner);
        } else {
            small.add(parent.number);
        }
    }

    private void die(Node n, Task joiner) {
        small.drop(n.number);
        int others = 0;
        for (int number = 0; number < TASKS; number++) {
            if (number != joiner.number && !tasks[number].idle) {
                others |= 1 << number;
            }
        }
        n.dieUntil(others);
    }

    private Node leastFreeNode() {
        for (int number = 0; number < PAGES; number++) {
            if (nodes[number].kind == FREE) {
                return nodes[number];
            }
        }
        return null;
    }

    /** A page and what stands on it. */
    private static final class Node {
        final int number;
        /** One place more than a node may keep: a node is overfull just before it splits. */
        final int[] keys = new int[MOST_ENTRIES + 1];
        final int[] seconds = new int[MOST_ENTRIES + 1];
        int count;
        int kind = FREE;
        int level;
        int low;
        int high;
        int right = NONE;
        int locker = NONE;
        /** The tasks, a bit each, that may still come to this DEAD page. */
        int awaited;

        Node(int number) {
            this.number = number;
        }

        void become(int newLevel, int newLow, int newHigh, int newRight) {
            kind = NODE;
            level = newLevel;
            low = newLow;
            high = newHigh;
            right = newRight;
            count = 0;
            locker = NONE;
        }

        boolean isWrongFor(int key) {
            return kind != NODE || low >= key;
        }

        int firstNotBelow(int key) {
            int k = 0;
            while (k < count && keys[k] < key) {
                k++;
            }
            return k;
        }

        boolean hasKeyAt(int k, int key) {
            return k < count && keys[k] == key;
        }

        int valueOf(int key) {
            int k = firstNotBelow(key);
            return hasKeyAt(k, key) ? seconds[k] : NOT_THERE;
        }

        int childFor(int key) {
            int k = firstNotBelow(key);
            return k < count ? seconds[k] : NONE;
        }

        int entryOfChild(int page) {
            for (int k = 0; k < count; k++) {
                if (seconds[k] == page) {
                    return k;
                }
            }
            return NONE;
        }

        void insert(int at, int key, int second) {
            if (at < 0 || at > count || count >= keys.length) {
                return;
            }
            for (int k = count; k > at; k--) {
                keys[k] = keys[k - 1];
                seconds[k] = seconds[k - 1];
            }
            keys[at] = key;
            seconds[at] = second;
            count++;
        }

        void delete(int at) {
            if (at < 0 || at >= count) {
                return;
            }
            count--;
            for (int k = at; k < count; k++) {
                keys[k] = keys[k + 1];
                seconds[k] = seconds[k + 1];
            }
        }

        /** The child for the key keeps what is up to the key, and the page gets what is above it. */
        void divideEntry(int key, int page) {
            int at = firstNotBelow(key);
            if (at < count && count < keys.length) {
                insert(at, key, seconds[at]);
                seconds[at + 1] = page;
            }
        }

        void takeAllOf(Node b) {
            moveFirstOf(b, b.count);
            high = b.high;
            right = b.right;
        }

        void shareWith(Node b) {
            int half = (count + b.count + 1) / 2;
            moveFirstOf(b, half - count);
            moveLastTo(b, count - half);
            if (count > 0) {
                high = keys[count - 1];
                b.low = high;
            }
        }

        private void moveFirstOf(Node b, int many) {
            for (int moved = 0; moved < many; moved++) {
                insert(count, b.keys[0], b.seconds[0]);
                b.delete(0);
            }
        }

        private void moveLastTo(Node b, int many) {
            for (int moved = 0; moved < many && count > 0; moved++) {
                b.insert(0, keys[count - 1], seconds[count - 1]);
                count--;
            }
        }

        void dieUntil(int tasksFinished) {
            awaited = tasksFinished;
            kind = awaited == 0 ? FREE : DEAD;
        }

        void awaitNoMore(int task) {
            if (kind == DEAD) {
                dieUntil(awaited & ~(1 << task));
            }
        }
    }

    /** A task, and what it does when it is not idle. */
    private static final class Task {
        final int number;
        final int[] path = new int[TOP_LEVEL + 1];
        boolean idle = true;
        int operation;
        int phase;
        int place;
        int key;
        int value;
        int level;
        /** The page that a JOIN joins (or NONE: it has none) or that a POST posts. */
        int subject;
        boolean hasAnswered;
        int latestAnswer;
        int steps;
        int blocks;
        int rights;
        int restarts;

        Task(int number) {
            this.number = number;
        }

        void searchAnew(int from) {
            phase = SEARCH;
            place = from;
            for (int k = 0; k < path.length; k++) {
                path[k] = NONE;
            }
        }

        void note(int at, int page) {
            if (at >= 0 && at < path.length) {
                path[at] = page;
            }
        }

        int notedAt(int at) {
            return at >= 0 && at < path.length ? path[at] : NONE;
        }
    }

    /** The queue: pages of nodes that have become small, each at most once. */
    private static final class SmallPages {
        final int[] pages = new int[QUEUE_LENGTH];
        int count;

        void add(int page) {
            if (count < QUEUE_LENGTH && !has(page)) {
                pages[count] = page;
                count++;
            }
        }

        int takeFirst() {
            if (count == 0) {
                return NONE;
            }
            int first = pages[0];
            drop(first);
            return first;
        }

        void drop(int page) {
            int kept = 0;
            for (int k = 0; k < count; k++) {
                if (pages[k] != page) {
                    pages[kept] = pages[k];
                    kept++;
                }
            }
            count = kept;
        }

        private boolean has(int page) {
            for (int k = 0; k < count; k++) {
                if (pages[k] == page) {
                    return true;
                }
            }
            return false;
        }
    }
}
