/** Promise 10: under. */
public final class UnderTest {
    public static void main(String[] args) {
        Check check = new Check();
        Play play = new Play();
        check.due("an empty leaf", play.tree.under(0), 0);
        play.putAll(10, 20, 30, 40);
        check.due("a leaf has its own", play.tree.under(0), 4);
        play.begin(0, Play.PUT, 50, 500);
        play.steps(0, 3);
        check.due("the right neighbour does not count", play.tree.under(0), 3);
        check.due("the neighbour has its own", play.tree.under(1), 2);
        play.steps(0, 1);
        check.due("a root over one of both", play.tree.under(2), 3);
        play.end(0);
        check.due("a root over both", play.tree.under(2), 5);
        play.putAll(60, 70, 80, 90, 100, 110, 120, 130, 140);
        check.due("three levels", play.tree.under(7), 14);
        check.due("its first child", play.tree.under(2), 9);
        check.due("its second child", play.tree.under(6), 5);
        check.due("a leaf", play.tree.under(5), 2);
        play.remove(140);
        check.due("one fewer", play.tree.under(7), 13);
        for (int wrong : new int[] {-1, 8, 23, 24, Integer.MIN_VALUE, Integer.MAX_VALUE}) {
            check.noElement("under(" + wrong + ")", () -> play.tree.under(wrong));
        }
        play.begin(0, Play.FIND, 10, 0);
        check.due("joined", play.join(), 1);
        check.due("page 5 is dead", play.tree.page(5, 0), 2);
        check.noElement("a dead page", () -> play.tree.under(5));
        check.due("the same number under the root", play.tree.under(7), 13);
        check.end();
    }
}
