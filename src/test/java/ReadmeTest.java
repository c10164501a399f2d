/** The example of README.md answers what its comments say. */
public final class ReadmeTest {
    public static void main(String[] args) {
        Check check = new Check();
        LinkTree tree = new LinkTree();
        tree.begin(0, 1, 5, 50);
        toTheEnd(tree, 0);
        check.due("PUT", tree.answer(0), -1);

        tree.begin(0, 1, 5, 51);
        tree.begin(1, 2, 5, 0);
        int[] tasks = {0, 1, 1, 0, 1};
        int[] steps = {0, 0, 0, 1, 2};
        for (int k = 0; k < tasks.length; k++) {
            check.due("step " + k, tree.step(tasks[k]), steps[k]);
        }
        check.due("REMOVE", tree.answer(1), 50);
        toTheEnd(tree, 0);
        check.due("PUT", tree.answer(0), -1);
        tree.begin(2, 0, 5, 0);
        check.due("one step", tree.step(2), 2);
        check.due("FIND", tree.answer(2), 51);
        check.end();
    }

    private static void toTheEnd(LinkTree tree, int task) {
        for (int k = 0; k < 20 && tree.step(task) != 2; k++) {
            continue;
        }
    }
}
