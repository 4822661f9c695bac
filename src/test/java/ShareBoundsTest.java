/** The edges that the document names for shares, in "Weights" and in promises 15 and 16. */
public final class ShareBoundsTest {
    private static final int MIN = Integer.MIN_VALUE;
    private static final int MAX = Integer.MAX_VALUE;
    private static final int NONE = Trellistag.NONE;

    public static void main(String[] args) {
        placesOfNone();
        placesOfOne();
        placesOfFive();
        tagsZeroToFour();
        roundedDown();
        exactThousandths();
        leastAndGreatest();
        lockedPlace();
        lockedOtherPlaces();
        lockedEverywhere();
        askedInAnyOrder();
        Check.finish();
    }

    private static void shares(Scene scene, int place, String due) {
        Check.due("shares at " + place, scene.shares(place), due);
        Check.due("shares anew at " + place, scene.sharesAnew(place), due);
    }

    private static void noSuchPlaces(Trellistag x, int... places) {
        for (int place : places) {
            for (int tag : new int[] {0, 4}) {
                Check.outOfBounds("share(" + place + ", " + tag + ")", () -> x.share(place, tag));
                Check.outOfBounds("shareAnew(" + place + ", " + tag + ")", () -> x.shareAnew(place, tag));
            }
        }
    }

    /** "of the place of the sentence": an empty one has none. */
    private static void placesOfNone() {
        noSuchPlaces(new Scene().text("a/0").type("b").x, MIN, -1, 0, 1, 4, 5, MAX);
    }

    /** "of the place of the sentence": of one word, only 0. */
    private static void placesOfOne() {
        Scene scene = new Scene().sentence("a");
        noSuchPlaces(scene.x, MIN, -1, 1, 4, 5, MAX);
        shares(scene, 0, "200 200 200 200 200");
    }

    /** "of the place of the sentence": of five words, 0 to 4. */
    private static void placesOfFive() {
        Scene scene = new Scene().text("a/0").sentence("b b b b a");
        noSuchPlaces(scene.x, MIN, -1, 5, 6, MAX);
        shares(scene, 0, "333 166 166 166 166");
        shares(scene, 3, "200 200 200 200 200");
        shares(scene, 4, "555 111 111 111 111");
    }

    /** "as told, of .. the tag". */
    private static void tagsZeroToFour() {
        Scene scene = new Scene().sentence("a b");
        Trellistag x = scene.x;
        for (int tag : new int[] {MIN, -2, NONE, 5, 6, MAX}) {
            for (int place : new int[] {0, 1}) {
                Check.outOfBounds("share(" + place + ", " + tag + ")", () -> x.share(place, tag));
                Check.outOfBounds("shareAnew(" + place + ", " + tag + ")", () -> x.shareAnew(place, tag));
            }
        }
        scene.x.lock(1, 4);
        shares(scene, 1, "0 0 0 0 1000");
    }

    /** "rounded down": also what is above a half: 1 of 6 is 166.7, 1 of 7 142.9, 3 of 7 428.6, 1 of 11 90.9. */
    private static void roundedDown() {
        Scene scene = new Scene().text("z/1").sentence("a");
        shares(scene, 0, "166 333 166 166 166");
        scene.text("z/1");
        shares(scene, 0, "142 428 142 142 142");
        scene.text("z/1").text("z/1").text("z/1").text("z/1");
        shares(scene, 0, "90 636 90 90 90");
    }

    /** "told in thousandths": where they are whole, nothing is rounded off. */
    private static void exactThousandths() {
        shares(new Scene().text("z/3").text("z/3").text("z/3").sentence("a"), 0, "125 125 125 500 125");
        shares(new Scene().text("ba/3").sentence("a"), 0, "100 100 100 600 100");
        Scene scene = new Scene().text("z/0").text("z/0").text("z/0").text("z/1").text("z/1").text("z/1");
        shares(scene.sentence("a"), 0, "363 363 90 90 90");
    }

    /** The most that one tag can have beside others is less than 1000, and the least is more than 0. */
    private static void leastAndGreatest() {
        Scene scene = new Scene();
        for (int i = 0; i < 20; i++) {
            scene.text("a/4 a/4 a/4 a/4 a/4 a/4");
        }
        scene.sentence("a a a a a");
        shares(scene, 4, "15 15 15 15 937");
        shares(scene, 0, "2 2 2 2 990");
        shares(scene, 2, "2 2 2 2 989");
    }

    /** "paths with another one there do not count": all or nothing at the place itself. */
    private static void lockedPlace() {
        Scene scene = new Scene().text("a/0").sentence("a a");
        for (int tag = 0; tag < 5; tag++) {
            scene.x.lock(0, tag);
            StringBuilder due = new StringBuilder();
            for (int other = 0; other < 5; other++) {
                due.append(other == 0 ? "" : " ").append(other == tag ? "1000" : "0");
            }
            shares(scene, 0, due.toString());
        }
        scene.x.lock(0, NONE);
        shares(scene, 0, "714 71 71 71 71");
    }

    /** "divided by that of all paths": of those that count; behind the tag 0 they weigh 6, 10, 5, 5, 5 of 31. */
    private static void lockedOtherPlaces() {
        Scene scene = new Scene().text("x/0 y/1").sentence("a b c");
        scene.x.lock(0, 0);
        shares(scene, 1, "193 322 161 161 161");
        scene.x.lock(0, NONE);
        scene.x.lock(1, 1);
        shares(scene, 0, "500 125 125 125 125");
        shares(scene, 2, "200 200 200 200 200");
        scene.x.lock(2, 4);
        shares(scene, 0, "500 125 125 125 125");
    }

    private static void lockedEverywhere() {
        Scene scene = new Scene().text("a/0").sentence("a a a a a").locks("4 3 2 1 0");
        shares(scene, 0, "0 0 0 0 1000");
        shares(scene, 1, "0 0 0 1000 0");
        shares(scene, 2, "0 0 1000 0 0");
        shares(scene, 3, "0 1000 0 0 0");
        shares(scene, 4, "1000 0 0 0 0");
    }

    /** No answer depends on what has been asked ahead of it. */
    private static void askedInAnyOrder() {
        Scene scene = new Scene().text("a/0").sentence("a b");
        for (int round = 0; round < 3; round++) {
            Check.answers("shareAnew(0, 0)", 714, () -> scene.x.shareAnew(0, 0));
            Check.answers("shareAnew(1, 0)", 200, () -> scene.x.shareAnew(1, 0));
            Check.answers("share(0, 0)", 714, () -> scene.x.share(0, 0));
            Check.answers("share(1, 4)", 200, () -> scene.x.share(1, 4));
        }
        scene.x.clear();
        scene.sentence("b");
        Check.answers("shareAnew(0, 0) of another sentence", 333, () -> scene.x.shareAnew(0, 0));
        scene.x.text(0, false);
        Check.answers("shareAnew(0, 0) without texts", 200, () -> scene.x.shareAnew(0, 0));
        Check.answers("share(0, 0) without texts", 200, () -> scene.x.share(0, 0));
    }
}
