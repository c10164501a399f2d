/** Promise 4: answer. */
public final class AnswerTest {
    public static void main(String[] args) {
        Check check = new Check();
        Play play = new Play();
        for (int task : new int[] {-1, 4, Integer.MIN_VALUE, Integer.MAX_VALUE}) {
            check.badArgument("answer(" + task + ")", () -> play.tree.answer(task));
        }
        check.noElement("nothing has begun", () -> play.tree.answer(0));
        play.begin(0, Play.PUT, 5, 50);
        check.noElement("nothing is finished", () -> play.tree.answer(0));
        play.end(0);
        check.due("PUT of a new key", play.tree.answer(0), -1);
        check.noElement("each task has its own", () -> play.tree.answer(1));
        play.begin(0, Play.PUT, 5, 60);
        check.due("still the latest that is finished", play.tree.answer(0), -1);
        play.steps(0, 2);
        check.due("still the latest that is finished", play.tree.answer(0), -1);
        play.steps(0, 1);
        check.due("PUT of an old key", play.tree.answer(0), 50);
        check.due("asking changes nothing", play.tree.answer(0), 50);
        check.due("FIND", play.whole(1, Play.FIND, 5, 0), 60);
        check.due("FIND of no key", play.whole(1, Play.FIND, 6, 0), -1);
        check.due("REMOVE", play.whole(2, Play.REMOVE, 5, 0), 60);
        check.due("REMOVE of no key", play.whole(2, Play.REMOVE, 5, 0), -1);
        check.due("JOIN without a page", play.whole(2, Play.JOIN, 0, 0), 0);
        check.due("task 0 has its own", play.tree.answer(0), 50);
        play.putAll(10, 20, 30, 40, 50);
        play.remove(50);
        check.due("JOIN", play.whole(2, Play.JOIN, 0, 0), 1);
        check.end();
    }
}
