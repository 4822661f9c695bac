/** Promises 11 to 14: path, pathAnew, product, cost. */
public final class PathTest {
    public static void main(String[] args) {
        alikePathsByTheirTags();
        ranks();
        ranksOfLongSentences();
        lockedPaths();
        costs();
        Check.finish();
    }

    private static void alikePathsByTheirTags() {
        Scene scene = new Scene().sentence("a b c d e");
        String[] due = {"0 0 0 0 0", "0 0 0 0 1", "0 0 0 0 2", "0 0 0 0 3", "0 0 0 0 4",
            "0 0 0 1 0", "0 0 0 1 1", "0 0 0 1 2", "0 0 0 1 3", "0 0 0 1 4"};
        for (int rank = 0; rank < 10; rank++) {
            Check.due("path of rank " + rank, scene.path(rank, 5), due[rank]);
            Check.due("pathAnew of rank " + rank, scene.pathAnew(rank, 5), due[rank]);
            int at = rank;
            Check.answers("product of rank " + rank, 1L, () -> scene.x.product(at));
        }
    }

    /** Weights: a 5 5 1 1 1 with firsts 2 2 1 1 1, b 1 1 5 3 1 by its own and an ending; steps 0-2 and 1-3. */
    private static void ranks() {
        Scene scene = new Scene().text("a/0 b/2").text("a/1 cb/3").sentence("a zb");
        String[] due = {"0 2", "1 3", "0 3", "1 2", "0 0", "0 1", "0 4", "1 0", "1 1", "1 4"};
        long[] products = {60, 60, 30, 30, 10, 10, 10, 10, 10, 10};
        for (int rank = 0; rank < 10; rank++) {
            Check.due("path of rank " + rank, scene.path(rank, 2), due[rank]);
            Check.due("pathAnew of rank " + rank, scene.pathAnew(rank, 2), due[rank]);
            int at = rank;
            Check.answers("product of rank " + rank, products[at], () -> scene.x.product(at));
        }
    }

    private static void ranksOfLongSentences() {
        Scene scene = new Scene();
        for (int i = 0; i < 8; i++) {
            scene.text("a/4 a/4 a/4 a/4 a/4 a/4");
        }
        scene.sentence("a a a a a");
        Check.due("the heaviest path that can be", scene.path(0, 5), "4 4 4 4 4");
        Check.answers("its weight", 992436543L, () -> scene.x.product(0));
        Check.answers("its cost", 31, scene.x::cost);
        // Another last tag costs a factor of 9 and one of 7, any other tag a factor of 7 more.
        String[] due = {"4 4 4 4 0", "4 4 4 4 1", "4 4 4 4 2", "4 4 4 4 3",
            "0 4 4 4 4", "1 4 4 4 4", "2 4 4 4 4", "3 4 4 4 4", "4 0 4 4 4"};
        for (int rank = 1; rank < 10; rank++) {
            Check.due("path of rank " + rank, scene.path(rank, 5), due[rank - 1]);
            Check.due("pathAnew of rank " + rank, scene.pathAnew(rank, 5), due[rank - 1]);
            int at = rank;
            long product = rank < 5 ? 15752961L : 2250423L;
            Check.answers("product of rank " + rank, product, () -> scene.x.product(at));
        }
    }

    private static void lockedPaths() {
        Scene scene = new Scene().text("a/0 b/2").text("a/1 cb/3").sentence("a zb");
        scene.x.lock(1, 3);
        String[] due = {"1 3", "0 3", "2 3", "3 3", "4 3"};
        for (int rank = 0; rank < 5; rank++) {
            Check.due("path of rank " + rank, scene.path(rank, 2), due[rank]);
            Check.due("pathAnew of rank " + rank, scene.pathAnew(rank, 2), due[rank]);
        }
        Check.due("no sixth path", scene.path(5, 2), "-1 -1");
        Check.due("no sixth path anew", scene.pathAnew(5, 2), "-1 -1");
        Check.answers("product of none", 0L, () -> scene.x.product(5));
        scene.x.lock(0, 4);
        Check.due("the only path", scene.path(0, 2), "4 3");
        Check.due("the only path anew", scene.pathAnew(0, 2), "4 3");
        Check.answers("its product", 3L, () -> scene.x.product(0));
        Check.due("no other", scene.path(1, 2), "-1 -1");
        Check.due("no other anew", scene.pathAnew(9, 2), "-1 -1");
        scene.x.lock(0, Trellistag.NONE);
        scene.x.lock(1, Trellistag.NONE);
        Check.due("unlocked", scene.path(0, 2), "0 2");
    }

    private static void costs() {
        Scene scene = new Scene().sentence("a");
        Check.answers("cost of weight 1", 60, scene.x::cost);
        scene.text("zb/0");
        Check.answers("cost of weight 2", 59, scene.x::cost);
        scene.text("za/0");
        Check.answers("cost of weight 9", 57, scene.x::cost);
        scene.x.lock(0, 1);
        Check.answers("cost of weight 1 under a lock", 60, scene.x::cost);
        Scene four = new Scene().text("b/0").text("c/0").text("d/0").sentence("a");
        Check.answers("weight 4", 4L, () -> four.x.product(0));
        Check.answers("cost of weight 4", 58, four.x::cost);
        four.text("e/0");
        Check.answers("cost of weight 5", 58, four.x::cost);
    }
}
