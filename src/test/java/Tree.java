import java.util.ArrayList;
import java.util.List;
import java.util.function.ToIntFunction;

/**
 * A LinkTree that is never used for more calls than the document promises: when an object has had
 * its 512 calls, a new one is brought to the same state by the calls that may have changed it.
 */
final class Tree {
    private static final int CALLS = 512;

    /** The begins and steps, and whatever has thrown. */
    private final List<ToIntFunction<LinkTree>> changes = new ArrayList<>();
    private LinkTree tree = new LinkTree();
    private int calls;

    /** Another object in the same state. */
    Tree copy() {
        Tree copy = new Tree();
        copy.changes.addAll(changes);
        copy.renew();
        return copy;
    }

    private void renew() {
        tree = new LinkTree();
        calls = 0;
        for (ToIntFunction<LinkTree> change : changes) {
            calls++;
            try {
                change.applyAsInt(tree);
            } catch (RuntimeException e) {
                // It threw the first time as well.
            }
        }
    }

    private int call(ToIntFunction<LinkTree> call) {
        if (calls >= CALLS) {
            renew();
        }
        if (calls >= CALLS) {
            throw new AssertionError("a test needs more calls of one object than the document promises");
        }
        calls++;
        return call.applyAsInt(tree);
    }

    private int change(ToIntFunction<LinkTree> change) {
        try {
            return call(change);
        } finally {
            changes.add(change);
        }
    }

    private int ask(ToIntFunction<LinkTree> question) {
        try {
            return call(question);
        } catch (RuntimeException e) {
            changes.add(question);
            throw e;
        }
    }

    void begin(int task, int operation, int key, int value) {
        change(t -> {
            t.begin(task, operation, key, value);
            return 0;
        });
    }

    int step(int task) {
        return change(t -> t.step(task));
    }

    int answer(int task) {
        return ask(t -> t.answer(task));
    }

    int look(int task, int what) {
        return ask(t -> t.look(task, what));
    }

    int page(int page, int what) {
        return ask(t -> t.page(page, what));
    }

    int entry(int page, int k, boolean second) {
        return ask(t -> t.entry(page, k, second));
    }

    int root() {
        return ask(LinkTree::root);
    }

    int queued() {
        return ask(LinkTree::queued);
    }

    int under(int page) {
        return ask(t -> t.under(page));
    }
}
