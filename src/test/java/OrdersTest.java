import java.util.Map;

/**
 * "in any order of their steps": the sentences about steps and changes once more, for small groups of
 * tasks in every order of their steps. Each method tells what its orders must come to, among other
 * things; all of them together must come to every sentence of the model.
 */
public final class OrdersTest {
    private static final Check CHECK = new Check();
    private static final Map<String, Integer> SEEN = Model.nothingSeen();
    private static int states;

    public static void main(String[] args) {
        oneLeaf();
        splitAndSearch();
        splitAndHold();
        twoSplitsWithoutRoot();
        joinOfTheRootsChildren();
        joinAndRemove();
        shareToTheLeft();
        shareToTheRight();
        shareOfMore();
        twoJoins();
        joinOfOneChild();
        queueIsEmptyOrNot();
        pageComesOnce();
        queueIsFull();
        joinOfAnUnpostedLeaf();
        joinBelowNoRoot();
        splitOfA();
        splitOfB();
        joinOfInnerNodes();
        shareOfInnerNodes();
        shareOfInnerNodesToTheLeft();
        splitOfInnerNode();
        twoSplitsOfInnerNode();
        rootWithRight();
        pageIsTheRoot();
        lastPage();
        pageIsFreeLater();
        postWithoutPage();
        newRootWithoutPage();
        everySentence();
        System.out.println(states + " states");
        CHECK.end();
    }

    private static Orders from(Twins start) {
        return new Orders(CHECK, start);
    }

    /** Goes through the orders and looks that they have come to some sentences of the model. */
    private static void go(Orders orders, String... comesTo) {
        states += orders.go();
        for (String sentence : comesTo) {
            CHECK.holds(orders.seen.containsKey(sentence), () -> "no order has come to: " + sentence);
        }
        orders.seen.forEach((sentence, times) -> SEEN.merge(sentence, times, Integer::sum));
    }

    /** Leaf 0: 10 20 30 40. */
    private static Twins fullLeaf() {
        return new Twins().put(10, 20, 30, 40);
    }

    /** Leaves 0: 10 20 30, 1: 40 50 under root 2. */
    private static Twins twoLeaves() {
        return fullLeaf().put(50);
    }

    /** Leaves 0: 10 20 30, 1: 40 50 60, 3: 70 80 under root 2. */
    private static Twins threeLeaves() {
        return leaves(3);
    }

    /** Keys 10, 20 ..: leaves of three keys but for the last one, which has two. */
    private static Twins leaves(int many) {
        Twins twins = new Twins();
        for (int key = 10; key <= 10 * (3 * many - 1); key += 10) {
            twins.put(key);
        }
        return twins;
    }

    /** Root 7 over 2 (leaves 0, 1, 3 of three keys) and 6 (leaves 4: 100 110 120, 5: 130 140). */
    private static Twins threeLevels() {
        return leaves(5);
    }

    private static void oneLeaf() {
        CHECK.says("several tasks search and change it step by step, in any order of their steps");
        go(from(new Twins()).find(0, 5).put(1, 5, 51).put(2, 5, 52).remove(3, 5),
            "lock: blocked", "find: there", "find: not there", "put: there", "put: in",
            "remove: not there", "remove: small root");
    }

    private static void splitAndSearch() {
        CHECK.says("If its HIGH is below the key: the place is its RIGHT");
        go(from(fullLeaf()).put(0, 50, 500).find(1, 40).find(1, 50).find(2, 30),
            "search: right", "put: split", "split: post from root", "below wanted: new root", "post: in");
    }

    private static void splitAndHold() {
        CHECK.says("it is unlocked, the place is its RIGHT, the phase is LOCK");
        go(from(fullLeaf()).put(0, 50, 500).put(1, 35, 350).remove(2, 40),
            "hold: right", "lock: blocked", "put: split");
    }

    private static void twoSplitsWithoutRoot() {
        CHECK.says("others RESTART, if the ROOT's level is not below the wanted one");
        go(from(fullLeaf()).put(0, 50, 500).put(1, 11, 110).put(2, 12, 120),
            "below wanted: restart", "below wanted: new root");
    }

    private static void joinOfTheRootsChildren() {
        CHECK.says("if P is the ROOT and has no RIGHT, its child becomes the ROOT, and P dies");
        go(from(twoLeaves().remove(50)).join(0).put(1, 45, 450).find(2, 40),
            "join: root dies", "join: one of two leaves", "join: B locked", "search: dead", "hold: dead",
            "lock: DEAD", "dies: DEAD", "dies: FREE", "a dead page becomes free later");
    }

    private static void joinAndRemove() {
        CHECK.says("If A or B is locked: BLOCKED");
        go(from(threeLeaves().remove(80)).join(0).remove(1, 70).put(2, 55, 550).find(3, 60),
            "join: A locked", "join: B locked", "queue: already in it");
    }

    private static void shareToTheLeft() {
        CHECK.says("or its LOW is not below the key: it is unlocked, RESTART");
        go(from(twoLeaves().put(45, 46).remove(10, 20)).join(0).find(1, 40).remove(2, 45),
            "join: share 5 of leaves to the left", "search: low not below", "hold: low not below");
    }

    private static void shareToTheRight() {
        CHECK.says("Otherwise the left one gets so many entries, in order, that it has half of them, or one more");
        go(from(twoLeaves().put(15).remove(50)).join(0).find(1, 30).put(2, 30, 3),
            "join: share 5 of leaves to the right", "search: right", "hold: right");
    }

    /** The small leaf gets entries before it is joined. */
    private static void shareOfMore() {
        CHECK.says("Otherwise the left one gets so many entries, in order, that it has half of them, or one more");
        go(from(twoLeaves().put(45, 46).remove(10, 20)).join(0).put(1, 1, 10).put(2, 2, 20).put(3, 3, 30),
            "join: share 5 of leaves to the left", "join: share 6 of leaves to the left",
            "join: share 7 of leaves to the left", "join: share 8 of leaves to the same");
        go(from(twoLeaves().put(15).remove(50)).join(0).put(1, 45, 450).put(1, 46, 460).find(2, 30),
            "join: share 6 of leaves to the right", "join: share 7 of leaves to the same");
    }

    private static void twoJoins() {
        CHECK.says("if that page is DEAD, or no child of P, or P has but one entry: FINISHED with 0");
        go(from(threeLeaves().remove(80, 40, 50)).join(0).join(1).find(2, 70),
            "join: page dead", "join: page is last", "join: page is not last", "lock: blocked");
    }

    /** Page 6 has one child left when the second JOIN comes. */
    private static void joinOfOneChild() {
        CHECK.says("or P has but one entry: FINISHED with 0");
        go(from(threeLevels().remove(130, 110, 120)).join(0).join(1).remove(2, 100),
            "join: but one entry", "join: P queued");
    }

    private static void queueIsEmptyOrNot() {
        CHECK.says("If the queue is empty, or the page is the ROOT, its key and level are 0");
        go(from(threeLeaves()).remove(0, 80).join(1).join(2).remove(3, 70),
            "join begins: queue empty", "join begins: with a page", "join without a page");
    }

    private static void pageComesOnce() {
        CHECK.says("a page that is in it does not come again");
        go(from(threeLeaves().remove(60)).remove(0, 50).remove(1, 40).join(2),
            "queue: already in it");
    }

    /** Eleven leaves are queued, and two more become small. */
    private static void queueIsFull() {
        CHECK.says("what comes when there are 12 is lost");
        Twins twins = new Twins();
        for (int key = 60; key > 30; key--) {
            twins.put(key);
        }
        for (int many = 1; many <= 11; many++) {
            twins.remove(61 - 2 * many);
        }
        go(from(twins).remove(0, 37).remove(1, 35).join(2), "queue: lost");
    }

    private static void joinOfAnUnpostedLeaf() {
        CHECK.says("or no child of P");
        go(from(twoLeaves().put(60, 70)).put(0, 80, 800).remove(1, 70).join(1), "join: no child");
    }

    private static void joinBelowNoRoot() {
        CHECK.says("If its level is below the wanted one: a JOIN is FINISHED with 0");
        go(from(fullLeaf()).put(0, 50, 500).remove(1, 40).join(2), "below wanted: join");
    }

    private static void splitOfA() {
        CHECK.says("If the HIGH of one of both is not its bound in P: FINISHED with 0");
        go(from(threeLeaves().put(45).remove(80)).join(0).put(1, 55, 550).find(2, 60), "join: A's HIGH");
    }

    private static void splitOfB() {
        CHECK.says("If the HIGH of one of both is not its bound in P: FINISHED with 0");
        go(from(threeLeaves().put(45).remove(10, 20)).join(0).put(1, 55, 550).find(2, 60), "join: B's HIGH");
    }

    /** Leaf 5 goes into leaf 4, then page 6 into page 2, and the ROOT sinks, while leaf 4 splits. */
    private static void joinOfInnerNodes() {
        CHECK.says("and searches from the page in its path for that level");
        go(from(threeLevels().remove(130)).join(0).join(0).put(1, 115, 1150).find(2, 140),
            "join: one of two inner nodes", "join: root dies", "join: P queued", "split: post by path",
            "search: dead", "dies: DEAD");
    }

    private static void shareOfInnerNodes() {
        CHECK.says("the last one's key or bound is A's HIGH, B's LOW, and A's bound in P");
        go(from(threeLevels().put(11, 12).remove(130)).join(0).join(0).put(1, 71, 710).put(2, 91, 910),
            "join: share 5 of inner nodes to the right");
    }

    private static void shareOfInnerNodesToTheLeft() {
        CHECK.says("the last one's key or bound is A's HIGH, B's LOW, and A's bound in P");
        Twins twins = threeLevels().put(150, 160, 170, 180, 190, 200);
        twins.remove(10, 20, 40, 50).whole(Play.JOIN, 0, 0).remove(30, 70, 80);
        go(from(twins).join(0).join(0).find(1, 100).put(2, 105, 1050),
            "join: share 5 of inner nodes to the left");
    }

    /** Page 2 is full, and so are leaves 0 and 4. */
    private static void splitOfInnerNode() {
        CHECK.says("If there are 5 then, the node splits, and the task posts that page");
        go(from(leaves(4).put(11, 120, 130)).put(0, 12, 120).put(1, 140, 1400).find(2, 100),
            "post: split", "split: post by path", "split: post from root", "below wanted: new root");
    }

    private static void twoSplitsOfInnerNode() {
        CHECK.says("of the first entry whose bound is not below the key, b and c, there become two: the key and c, b and the page");
        go(from(leaves(4).put(11, 120, 130)).put(0, 12, 120).put(1, 140, 1400).put(2, 105, 1050),
            "post: split", "hold: right");
    }

    /** Page 2, the ROOT, splits, and has but one entry before another is above it. */
    private static void rootWithRight() {
        CHECK.says("otherwise P's page comes into the queue");
        go(from(leaves(4).put(120, 130).remove(10, 20, 40, 50, 70, 80)).put(0, 140, 1400).join(1).join(2),
            "join: root with RIGHT queued");
    }

    private static void pageIsTheRoot() {
        CHECK.says("or the page is the ROOT");
        go(from(twoLeaves().remove(50, 10, 20)).join(0).join(0).join(1).find(2, 40),
            "join begins: page is root", "below wanted: join");
    }

    /** Two leaves are full, and one page is free. */
    private static void lastPage() {
        CHECK.says("without a free page nothing comes in: FINISHED with -2");
        go(from(leaves(15).put(11, 101)).put(0, 12, 120).put(1, 102, 1020), "put: no free page");
    }

    /** No page is free before the JOIN, and the page of the leaf that dies is free only later. */
    private static void pageIsFreeLater() {
        CHECK.says("its page is free when all tasks that were not idle at that time (but the one that joined) are finished with the operations that they had");
        go(from(leaves(16).put(11).remove(470)).join(0).put(1, 12, 120).put(1, 12, 121),
            "put: no free page", "put: split", "a dead page becomes free later", "dies: DEAD", "dies: FREE");
    }

    private static void postWithoutPage() {
        CHECK.says("without a free page nothing is changed, FINISHED");
        go(from(leaves(14).put(11, 12, 5, 13)).put(0, 6, 60).find(1, 12), "post: no free page");
    }

    private static void newRootWithoutPage() {
        CHECK.says("without a free page: FINISHED with the answer of the PUT");
        go(from(leaves(13).put(11, 12, 101, 102, 191, 192, 41)).put(0, 42, 420).find(1, 60),
            "below wanted: no free page");
    }

    private static void everySentence() {
        CHECK.says("in any order of their steps");
        for (String[] sentences : new String[][] {Model.SENTENCES, Model.RARE_SENTENCES}) {
            for (String sentence : sentences) {
                CHECK.holds(SEEN.containsKey(sentence), () -> "no order has come to: " + sentence);
            }
        }
    }
}
