import java.util.ArrayDeque;
import java.util.ArrayList;
import java.util.Arrays;
import java.util.Deque;
import java.util.HashSet;
import java.util.List;
import java.util.Map;
import java.util.Set;
import java.util.TreeMap;

/**
 * Goes through every order in which some tasks can do their steps. Orders that have led to the same
 * state go on as one, so that there is an end. At every state the object must tell what the model
 * tells, and what holds at any time is looked at without the model; when all tasks are idle, the
 * answers must be those of the operations done one after the other.
 */
final class Orders {
    /** An operation that a task is to do. */
    private record Deed(int task, int operation, int key, int value) {
    }

    /** Where some of the orders have come to. */
    private static final class Point {
        final Twins twins;
        final int[] begun;
        final Integer[] answers;
        /** For each deed those, a bit each, that were finished when it began. */
        final int[] before;

        Point(Twins twins, int[] begun, Integer[] answers, int[] before) {
            this.twins = twins;
            this.begun = begun;
            this.answers = answers;
            this.before = before;
        }

        Point copy(Map<String, Integer> seen) {
            return new Point(twins.copy(seen), begun.clone(), answers.clone(), before.clone());
        }

        String name() {
            return twins.model.state() + Arrays.toString(begun) + Arrays.toString(answers)
                + Arrays.toString(before);
        }
    }

    private final Check check;
    /** The sentences that the model has come to, in all orders together. */
    final Map<String, Integer> seen = Model.nothingSeen();
    private final Twins start;
    private final List<Deed> deeds = new ArrayList<>();
    private final Set<String> known = new HashSet<>();
    private final Deque<Point> open = new ArrayDeque<>();
    private int ends;

    Orders(Check check, Twins start) {
        this.check = check;
        this.start = start;
    }

    /** A task does its deeds in the order in which they are told here. */
    Orders deed(int task, int operation, int key, int value) {
        deeds.add(new Deed(task, operation, key, value));
        return this;
    }

    Orders find(int task, int key) {
        return deed(task, Play.FIND, key, 0);
    }

    Orders put(int task, int key, int value) {
        return deed(task, Play.PUT, key, value);
    }

    Orders remove(int task, int key) {
        return deed(task, Play.REMOVE, key, 0);
    }

    Orders join(int task) {
        return deed(task, Play.JOIN, 0, 0);
    }

    /** Goes through all orders; how many states they came to. */
    int go() {
        TreeMap<Integer, Integer> content = content(start.play);
        Point first = new Point(start, new int[4], new Integer[deeds.size()], new int[deeds.size()]);
        known.add(first.name());
        open.push(first);
        while (!open.isEmpty()) {
            Point point = open.pop();
            if (!goOn(point)) {
                ends++;
                lookAtEnd(point, content);
            }
        }
        check.holds(ends > 0, () -> "no order has an end");
        return known.size();
    }

    /** Every next move of a point; false if there is none. */
    private boolean goOn(Point point) {
        boolean moved = false;
        boolean allBlocked = true;
        for (int task = 0; task < 4; task++) {
            if (point.twins.model.tasks[task].does.equals("IDLE") && nextDeed(point, task) < 0) {
                continue;
            }
            moved = true;
            Point next = point.copy(seen);
            boolean blocked = move(next, task);
            allBlocked &= blocked;
            boolean fresh = known.add(next.name());
            check.holds(!(blocked && fresh), () -> "BLOCKED, but something has changed:" + next.twins.story());
            if (fresh) {
                open.push(next);
            }
            if (fresh || blocked) {
                lookAt(next);
            }
        }
        check.holds(!moved || !allBlocked, () -> "all tasks are BLOCKED:" + point.twins.story());
        return moved;
    }

    private int nextDeed(Point point, int task) {
        int found = 0;
        for (int k = 0; k < deeds.size(); k++) {
            if (deeds.get(k).task == task) {
                if (found == point.begun[task]) {
                    return k;
                }
                found++;
            }
        }
        return -1;
    }

    private int currentDeed(Point point, int task) {
        point.begun[task]--;
        int deed = nextDeed(point, task);
        point.begun[task]++;
        return deed;
    }

    /** A task begins its next deed or does a step; whether it was BLOCKED. */
    private boolean move(Point point, int task) {
        Twins twins = point.twins;
        if (twins.model.tasks[task].does.equals("IDLE")) {
            int number = nextDeed(point, task);
            Deed deed = deeds.get(number);
            for (int k = 0; k < deeds.size(); k++) {
                point.before[number] |= point.answers[k] == null ? 0 : 1 << k;
            }
            point.begun[task]++;
            twins.begin(task, deed.operation, deed.key, deed.value);
            return false;
        }
        int[] answers = twins.step(task);
        check.holds(answers[0] == answers[1], () -> "the last of" + twins.story()
            + " answered " + answers[0] + ", due is " + answers[1]);
        if (answers[0] == 2) {
            point.answers[currentDeed(point, task)] = twins.play.tree.answer(task);
        }
        return answers[0] == 1;
    }

    private void lookAt(Point point) {
        Twins twins = point.twins;
        check.holds(twins.tellTheSame(), () -> "after" + twins.story() + " the face tells "
            + twins.play.everything() + ", due is " + twins.model.everything());
        String shape = Shape.fault(twins.play);
        check.holds(shape.isEmpty(), () -> "after" + twins.story() + " " + shape);
        check.holds(noTaskAtFreePage(twins.play), () -> "after" + twins.story() + " a task stands at a free page");
        check.holds(locksAreHeld(twins.play), () -> "after" + twins.story()
            + " a lock is not that of a task in HOLD at that node");
    }

    private static boolean noTaskAtFreePage(Play play) {
        for (int task = 0; task < 4; task++) {
            if (play.tree.look(task, 0) == 0 && play.tree.page(play.tree.look(task, 2), 0) == 0) {
                return false;
            }
        }
        return true;
    }

    /** A node is locked by a task if and only if that task is in HOLD with the node as its place. */
    private static boolean locksAreHeld(Play play) {
        int[] holder = new int[24];
        Arrays.fill(holder, -1);
        for (int task = 0; task < 4; task++) {
            if (play.tree.look(task, 1) == Play.HOLD) {
                int place = play.tree.look(task, 2);
                if (holder[place] != -1) {
                    return false;
                }
                holder[place] = task;
            }
        }
        for (int page = 0; page < 24; page++) {
            int locker = play.tree.page(page, 6);
            if (locker != -2 && locker != holder[page]) {
                return false;
            }
        }
        return true;
    }

    private static TreeMap<Integer, Integer> content(Play play) {
        TreeMap<Integer, Integer> content = new TreeMap<>();
        for (int page = 0; page < 24; page++) {
            if (play.tree.page(page, 1) == 0) {
                int[] entries = play.entries(page);
                for (int k = 0; k < entries.length; k += 2) {
                    content.put(entries[k], entries[k + 1]);
                }
            }
        }
        return content;
    }

    private void lookAtEnd(Point point, TreeMap<Integer, Integer> content) {
        Play play = point.twins.play;
        for (int page = 0; page < 24; page++) {
            int kind = play.tree.page(page, 0);
            check.holds(kind != 2, () -> "all tasks are idle, but a page is DEAD after" + point.twins.story());
        }
        TreeMap<Integer, Integer> left = content(play);
        check.holds(inSomeOrder(point, 0, content, left), () -> "the answers " + Arrays.toString(point.answers)
            + " and what is left, " + left + ", are those of no order of the operations:" + point.twins.story());
        for (Deed deed : deeds) {
            check.holds(play.copy().find(deed.key) == left.getOrDefault(deed.key, -1),
                () -> "key " + deed.key + " is not found as it is left after" + point.twins.story());
        }
    }

    /** Whether the deeds that are not done yet can be done one after the other with their answers. */
    private boolean inSomeOrder(Point point, int done, TreeMap<Integer, Integer> content,
            TreeMap<Integer, Integer> left) {
        if (done == (1 << deeds.size()) - 1) {
            return content.equals(left);
        }
        for (int k = 0; k < deeds.size(); k++) {
            if ((done & 1 << k) != 0 || (point.before[k] & ~done) != 0) {
                continue;
            }
            TreeMap<Integer, Integer> after = new TreeMap<>(content);
            if (fits(deeds.get(k), point.answers[k], after) && inSomeOrder(point, done | 1 << k, after, left)) {
                return true;
            }
        }
        return false;
    }

    /** Does a deed to a map; whether it answers so. */
    private static boolean fits(Deed deed, int answer, TreeMap<Integer, Integer> map) {
        switch (deed.operation) {
            case Play.FIND:
                return answer == map.getOrDefault(deed.key, -1);
            case Play.PUT:
                if (answer == -2) {
                    return !map.containsKey(deed.key);
                }
                Integer old = map.put(deed.key, deed.value);
                return answer == (old == null ? -1 : old);
            case Play.REMOVE:
                Integer gone = map.remove(deed.key);
                return answer == (gone == null ? -1 : gone);
            default:
                return answer == 0 || answer == 1;
        }
    }
}
