import java.util.ArrayList;
import java.util.Collection;
import java.util.LinkedHashMap;
import java.util.List;
import java.util.Map;
import java.util.TreeMap;

/**
 * The document read once more, with other means than the program: sorted maps for entries, lists
 * for the queue, and for each dead page the list of operations that it waits for. It also writes
 * down which sentences of the document a run has come to.
 */
final class Model {
    /** Names of the sentences about steps and changes, as they are written down when they are come to. */
    static final String[] SENTENCES = {
        "join begins: queue empty", "join begins: page is root", "join begins: with a page",
        "join without a page", "lock: blocked", "lock: NODE", "lock: DEAD", "search: dead",
        "search: low not below", "search: right", "find: not there", "find: there",
        "below wanted: join", "below wanted: restart", "below wanted: no free page",
        "below wanted: new root", "hold: dead", "hold: low not below", "hold: right",
        "a dead page becomes free later", "put: there", "put: no free page", "put: in", "put: split",
        "post: no free page", "post: in", "post: split", "split: post by path",
        "split: post from root", "remove: not there", "remove: small root", "queue: already in it",
        "join: page dead", "join: no child", "join: but one entry",
        "join: page is last", "join: page is not last", "join: A locked", "join: B locked",
        "join: A's HIGH", "join: B's HIGH", "join: one of two leaves", "join: one of two inner nodes",
        "join: share 5 of leaves to the left", "join: share 5 of leaves to the right",
        "join: share 6 of leaves to the left", "join: share 6 of leaves to the right",
        "join: share 7 of leaves to the same", "join: share 8 of leaves to the same",
        "join: share 5 of inner nodes to the left", "join: share 5 of inner nodes to the right",
        "join: root dies", "join: P queued",
        "dies: out of the queue", "dies: FREE", "dies: DEAD"
    };
    /** Two more, which a run of drawn calls seldom comes to. */
    static final String[] RARE_SENTENCES = {"queue: lost", "join: root with RIGHT queued"};

    static final class Page {
        final int number;
        Page(int number) {
            this.number = number;
        }
        String kind = "FREE";
        int level;
        int low;
        int high;
        int right;
        int lockedBy = -1;
        TreeMap<Integer, Integer> entries = new TreeMap<>();
        /** Pairs of a task and the number of its operation. */
        List<int[]> waitsFor = new ArrayList<>();
    }

    static final class Task {
        final int number;
        Task(int number) {
            this.number = number;
        }
        String does = "IDLE";
        String phase = "";
        int place;
        int seeks;
        int value;
        int wants;
        Map<Integer, Integer> path = new TreeMap<>();
        Integer pageToJoin;
        Integer pageToPost;
        int begun;
        int finished;
        int answer;
        int steps;
        int blocked;
        int rights;
        int restarts;
    }

    final Page[] pages = new Page[24];
    final Task[] tasks = new Task[4];
    final List<Integer> queue = new ArrayList<>();
    int root = 0;
    /** How often a sentence has been come to, over all models that share this map. */
    Map<String, Integer> seen;

    Model(Map<String, Integer> seen) {
        this.seen = seen;
        for (int k = 0; k < 24; k++) {
            pages[k] = new Page(k);
        }
        for (int k = 0; k < 4; k++) {
            tasks[k] = new Task(k);
        }
        node(pages[0], 0, -1, 999, -1);
    }

    static Map<String, Integer> nothingSeen() {
        return new LinkedHashMap<>();
    }

    private void saw(String sentence) {
        seen.merge(sentence, 1, Integer::sum);
    }

    private static void node(Page page, int level, int low, int high, int right) {
        page.kind = "NODE";
        page.level = level;
        page.low = low;
        page.high = high;
        page.right = right;
        page.lockedBy = -1;
        page.entries = new TreeMap<>();
    }

    void begin(int task, int operation, int key, int value) {
        Task t = tasks[task];
        t.begun++;
        t.does = List.of("FIND", "PUT", "REMOVE", "JOIN").get(operation);
        t.phase = "SEARCH";
        t.place = root;
        t.seeks = key;
        t.value = value;
        t.wants = 0;
        t.path.clear();
        t.pageToJoin = null;
        t.pageToPost = null;
        if (operation == 3) {
            t.seeks = 0;
            if (queue.isEmpty()) {
                saw("join begins: queue empty");
                return;
            }
            int first = queue.remove(0);
            if (first == root) {
                saw("join begins: page is root");
                return;
            }
            saw("join begins: with a page");
            t.pageToJoin = first;
            t.seeks = pages[first].high;
            t.wants = pages[first].level + 1;
        }
    }

    int step(int task) {
        Task t = tasks[task];
        t.steps++;
        Page at = pages[t.place];
        if (t.does.equals("JOIN") && t.pageToJoin == null) {
            saw("join without a page");
            return finished(t, 0);
        }
        if (t.phase.equals("SEARCH")) {
            return search(t, at);
        }
        if (t.phase.equals("LOCK")) {
            if (at.lockedBy >= 0) {
                saw("lock: blocked");
                t.blocked++;
                return 1;
            }
            saw("lock: " + at.kind);
            at.lockedBy = task;
            t.phase = "HOLD";
            return 0;
        }
        return hold(t, at);
    }

    private int search(Task t, Page at) {
        if (at.kind.equals("DEAD")) {
            saw("search: dead");
            return restart(t);
        }
        if (!(at.low < t.seeks)) {
            saw("search: low not below");
            return restart(t);
        }
        if (at.high < t.seeks) {
            saw("search: right");
            t.rights++;
            t.place = at.right;
            return 0;
        }
        if (at.level > t.wants) {
            t.path.put(at.level, at.number);
            t.place = at.entries.ceilingEntry(t.seeks).getValue();
            return 0;
        }
        if (at.level < t.wants) {
            return belowWanted(t);
        }
        if (t.does.equals("FIND")) {
            Integer value = at.entries.get(t.seeks);
            saw(value == null ? "find: not there" : "find: there");
            return finished(t, value == null ? -1 : value);
        }
        t.phase = "LOCK";
        return 0;
    }

    private int belowWanted(Task t) {
        if (t.does.equals("JOIN")) {
            saw("below wanted: join");
            return finished(t, 0);
        }
        if (pages[root].level >= t.wants) {
            saw("below wanted: restart");
            return restart(t);
        }
        Page fresh = free();
        if (fresh == null) {
            saw("below wanted: no free page");
            return finished(t, -1);
        }
        saw("below wanted: new root");
        node(fresh, pages[root].level + 1, -1, 999, -1);
        fresh.entries.put(999, root);
        root = fresh.number;
        t.place = root;
        return 0;
    }

    private int hold(Task t, Page at) {
        if (at.kind.equals("DEAD") || at.low >= t.seeks) {
            saw(at.kind.equals("DEAD") ? "hold: dead" : "hold: low not below");
            at.lockedBy = -1;
            return restart(t);
        }
        if (at.high < t.seeks) {
            saw("hold: right");
            at.lockedBy = -1;
            t.rights++;
            t.place = at.right;
            t.phase = "LOCK";
            return 0;
        }
        int answer;
        if (t.does.equals("REMOVE")) {
            answer = remove(t, at);
        } else if (t.does.equals("JOIN")) {
            answer = join(t, at);
        } else if (t.pageToPost != null) {
            answer = post(t, at);
        } else {
            answer = put(t, at);
        }
        if (answer == 1) {
            t.blocked++;
        } else {
            at.lockedBy = -1;
        }
        return answer;
    }

    private int restart(Task t) {
        t.restarts++;
        t.phase = "SEARCH";
        t.place = root;
        t.path.clear();
        return 0;
    }

    private int finished(Task t, int answer) {
        t.does = "IDLE";
        t.finished = t.begun;
        t.answer = answer;
        for (Page page : pages) {
            if (page.kind.equals("DEAD") && nobodyComes(page)) {
                saw("a dead page becomes free later");
                page.kind = "FREE";
            }
        }
        return 2;
    }

    private boolean nobodyComes(Page page) {
        for (int[] pair : page.waitsFor) {
            if (tasks[pair[0]].finished < pair[1]) {
                return false;
            }
        }
        return true;
    }

    private Page free() {
        for (Page page : pages) {
            if (page.kind.equals("FREE")) {
                return page;
            }
        }
        return null;
    }

    private int put(Task t, Page leaf) {
        if (leaf.entries.containsKey(t.seeks)) {
            saw("put: there");
            return finished(t, leaf.entries.put(t.seeks, t.value));
        }
        if (leaf.entries.size() == 4 && free() == null) {
            saw("put: no free page");
            return finished(t, -2);
        }
        leaf.entries.put(t.seeks, t.value);
        if (leaf.entries.size() < 5) {
            saw("put: in");
            return finished(t, -1);
        }
        saw("put: split");
        split(t, leaf);
        return 3;
    }

    private int post(Task t, Page parent) {
        Map.Entry<Integer, Integer> entry = parent.entries.ceilingEntry(t.seeks);
        if (parent.entries.size() == 4 && free() == null) {
            saw("post: no free page");
            return finished(t, -1);
        }
        parent.entries.put(t.seeks, entry.getValue());
        parent.entries.put(entry.getKey(), t.pageToPost);
        if (parent.entries.size() < 5) {
            saw("post: in");
            return finished(t, -1);
        }
        saw("post: split");
        split(t, parent);
        return 0;
    }

    private void split(Task t, Page node) {
        Page fresh = free();
        int third = new ArrayList<>(node.entries.keySet()).get(2);
        node(fresh, node.level, third, node.high, node.right);
        fresh.entries = new TreeMap<>(node.entries.tailMap(third, false));
        node.entries = new TreeMap<>(node.entries.headMap(third, true));
        node.high = third;
        node.right = fresh.number;
        t.pageToPost = fresh.number;
        t.seeks = third;
        t.wants = node.level + 1;
        t.phase = "SEARCH";
        saw(t.path.containsKey(t.wants) ? "split: post by path" : "split: post from root");
        t.place = t.path.getOrDefault(t.wants, root);
    }

    private int remove(Task t, Page leaf) {
        if (!leaf.entries.containsKey(t.seeks)) {
            saw("remove: not there");
            return finished(t, -1);
        }
        int value = leaf.entries.remove(t.seeks);
        if (leaf.entries.size() < 2) {
            if (leaf.number == root) {
                saw("remove: small root");
            } else {
                comesIntoQueue(leaf.number);
            }
        }
        return finished(t, value);
    }

    private void comesIntoQueue(int page) {
        if (queue.contains(page)) {
            saw("queue: already in it");
        } else if (queue.size() == 12) {
            saw("queue: lost");
        } else {
            queue.add(page);
        }
    }

    private int join(Task t, Page parent) {
        if (pages[t.pageToJoin].kind.equals("DEAD")) {
            saw("join: page dead");
            return finished(t, 0);
        }
        List<Integer> bounds = new ArrayList<>(parent.entries.keySet());
        List<Integer> children = new ArrayList<>(parent.entries.values());
        int at = children.indexOf(t.pageToJoin);
        if (at < 0) {
            saw("join: no child");
            return finished(t, 0);
        }
        if (children.size() == 1) {
            saw("join: but one entry");
            return finished(t, 0);
        }
        boolean last = at == children.size() - 1;
        saw(last ? "join: page is last" : "join: page is not last");
        int first = last ? at - 1 : at;
        Page a = pages[children.get(first)];
        Page b = pages[children.get(first + 1)];
        if (a.lockedBy >= 0 || b.lockedBy >= 0) {
            saw(a.lockedBy >= 0 ? "join: A locked" : "join: B locked");
            return 1;
        }
        if (a.high != bounds.get(first) || b.high != bounds.get(first + 1)) {
            saw(a.high != bounds.get(first) ? "join: A's HIGH" : "join: B's HIGH");
            return finished(t, 0);
        }
        String kind = a.level == 0 ? "leaves" : "inner nodes";
        int together = a.entries.size() + b.entries.size();
        if (together <= 4) {
            saw("join: one of two " + kind);
            a.entries.putAll(b.entries);
            a.high = b.high;
            a.right = b.right;
            dies(t, b);
            parent.entries.remove(bounds.get(first));
            parent.entries.put(bounds.get(first + 1), a.number);
        } else {
            share(a, b, kind);
            parent.entries.remove(bounds.get(first));
            parent.entries.put(a.high, a.number);
        }
        if (parent.entries.size() == 1) {
            if (parent.number == root && parent.right == -1) {
                saw("join: root dies");
                root = parent.entries.firstEntry().getValue();
                dies(t, parent);
            } else {
                saw(parent.number == root ? "join: root with RIGHT queued" : "join: P queued");
                comesIntoQueue(parent.number);
            }
        }
        return finished(t, 1);
    }

    private void share(Page a, Page b, String kind) {
        int before = a.entries.size();
        TreeMap<Integer, Integer> all = new TreeMap<>(a.entries);
        all.putAll(b.entries);
        int half = all.size() / 2 + all.size() % 2;
        saw("join: share " + all.size() + " of " + kind + " to the "
            + (half > before ? "left" : half < before ? "right" : "same"));
        int border = new ArrayList<>(all.keySet()).get(half - 1);
        a.entries = new TreeMap<>(all.headMap(border, true));
        b.entries = new TreeMap<>(all.tailMap(border, false));
        a.high = border;
        b.low = border;
    }

    private void dies(Task joiner, Page page) {
        if (queue.remove((Integer) page.number)) {
            saw("dies: out of the queue");
        }
        page.waitsFor = new ArrayList<>();
        for (Task other : tasks) {
            if (other != joiner && !other.does.equals("IDLE")) {
                page.waitsFor.add(new int[] {other.number, other.begun});
            }
        }
        page.kind = page.waitsFor.isEmpty() ? "FREE" : "DEAD";
        saw("dies: " + page.kind);
    }

    int look(int task, int what) {
        Task t = tasks[task];
        boolean idle = t.does.equals("IDLE");
        if (idle && what >= 1 && what <= 4) {
            return -1;
        }
        int phase = List.of("SEARCH", "LOCK", "HOLD").indexOf(t.phase);
        return new int[] {idle ? 1 : 0, phase, t.place, t.seeks, t.wants,
            t.steps, t.blocked, t.rights, t.restarts}[what];
    }

    int page(int page, int what) {
        Page p = pages[page];
        int kind = List.of("FREE", "NODE", "DEAD").indexOf(p.kind);
        if (what > 0 && kind != 1) {
            return -2;
        }
        return new int[] {kind, p.level, p.low, p.high, p.right, p.entries.size(), p.lockedBy}[what];
    }

    int under(int page) {
        Page p = pages[page];
        if (p.level == 0) {
            return p.entries.size();
        }
        int sum = 0;
        for (int child : p.entries.values()) {
            sum += under(child);
        }
        return sum;
    }

    /** Everything that the face tells, in the order of Play.all(). */
    List<Integer> all() {
        List<Integer> all = new ArrayList<>();
        all.add(root);
        all.add(queue.size());
        for (int task = 0; task < 4; task++) {
            for (int what = 0; what < 9; what++) {
                all.add(look(task, what));
            }
        }
        for (int page = 0; page < 24; page++) {
            for (int what = 0; what < 7; what++) {
                all.add(page(page, what));
            }
            if (pages[page].kind.equals("NODE")) {
                for (Map.Entry<Integer, Integer> entry : pages[page].entries.entrySet()) {
                    all.addAll((Collection<Integer>) List.of(entry.getKey(), entry.getValue()));
                }
                all.add(under(page));
            }
        }
        return all;
    }

    /** The same, and the answers of the tasks, in the order of Play.everything(). */
    List<Integer> everything() {
        List<Integer> all = all();
        for (Task t : tasks) {
            all.add(t.finished > 0 ? 1 : 0);
            if (t.finished > 0) {
                all.add(t.answer);
            }
        }
        return all;
    }

    /** All that a later call may depend on, as a text: two models with one text go on alike. */
    String state() {
        StringBuilder text = new StringBuilder("root " + root + " queue " + queue);
        for (Page p : pages) {
            text.append("\n").append(p.kind);
            if (p.kind.equals("NODE")) {
                text.append(" ").append(p.level).append(" ").append(p.low).append(" ").append(p.high)
                    .append(" ").append(p.right).append(" ").append(p.entries);
            }
            text.append(" ").append(p.lockedBy);
            if (p.kind.equals("DEAD")) {
                for (int[] pair : p.waitsFor) {
                    text.append(" ").append(pair[0]).append(":").append(pair[1]);
                }
            }
        }
        for (Task t : tasks) {
            text.append("\n").append(t.does);
            if (!t.does.equals("IDLE")) {
                text.append(" ").append(t.phase).append(" ").append(t.place).append(" ").append(t.seeks)
                    .append(" ").append(t.value).append(" ").append(t.wants).append(" ").append(t.path)
                    .append(" ").append(t.pageToJoin).append(" ").append(t.pageToPost);
            }
        }
        return text.toString();
    }
}
