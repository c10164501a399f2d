/** Promise 1: one empty leaf; all tasks idle. */
public final class NewObjectTest {
    public static void main(String[] args) {
        Check check = new Check();
        Play play = new Play();
        check.due("root()", play.tree.root(), 0);
        check.due("queued()", play.tree.queued(), 0);
        check.row("page 0", play.page(0), 1, 0, -1, 999, -1, 0, -1);
        check.due("under(0)", play.tree.under(0), 0);
        for (int page = 1; page < 24; page++) {
            check.row("page " + page, play.page(page), 0, -2, -2, -2, -2, -2, -2);
        }
        for (int task = 0; task < 4; task++) {
            int number = task;
            check.row("task " + task, play.task(task), 1, -1, -1, -1, -1);
            check.row("counts of task " + task, play.counts(task), 0, 0, 0, 0);
            check.noElement("answer(" + task + ")", () -> play.tree.answer(number));
        }
        Play other = new Play();
        other.putAll(1, 2, 3, 4, 5, 6);
        check.due("root() of the first object", play.tree.root(), 0);
        check.row("page 0 of the first object", play.page(0), 1, 0, -1, 999, -1, 0, -1);
        check.row("task 3 of the first object", play.task(3), 1, -1, -1, -1, -1);
        check.end();
    }
}
