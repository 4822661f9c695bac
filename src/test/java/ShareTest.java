/** Promises 15 and 16: share, shareAnew. */
public final class ShareTest {
    public static void main(String[] args) {
        alike();
        one();
        two();
        locked();
        Check.finish();
    }

    private static void shares(Scene scene, int place, String due) {
        Check.due("shares at " + place, scene.shares(place), due);
        Check.due("shares anew at " + place, scene.sharesAnew(place), due);
    }

    private static void alike() {
        Scene scene = new Scene().sentence("a b c d e");
        for (int place = 0; place < 5; place++) {
            shares(scene, place, "200 200 200 200 200");
        }
    }

    /** Weights 2 times 3, 1, 1, 1, 1: sixths are rounded down. */
    private static void one() {
        shares(new Scene().text("ba/2").sentence("a"), 0, "100 100 600 100 100");
        shares(new Scene().text("b/2").sentence("a"), 0, "166 166 333 166 166");
        shares(new Scene().text("b/2").text("b/2").sentence("a"), 0, "142 142 428 142 142");
    }

    /** The first tag weighs 10 1 1 1 1, the second 1 5 1 1 1, the step from 0 to 1 doubles: 140 + 4 times 9. */
    private static void two() {
        Scene scene = new Scene().text("a/0 b/1").sentence("a b");
        shares(scene, 0, "795 51 51 51 51");
        shares(scene, 1, "79 681 79 79 79");
    }

    private static void locked() {
        Scene scene = new Scene().text("a/0 b/1").sentence("a b");
        scene.x.lock(0, 0);
        shares(scene, 0, "1000 0 0 0 0");
        shares(scene, 1, "71 714 71 71 71");
        scene.x.lock(1, 3);
        shares(scene, 1, "0 0 0 1000 0");
        scene.x.lock(0, Trellistag.NONE);
        shares(scene, 0, "714 71 71 71 71");
    }
}
