/** The edges that the document names in "Weights" for paths, their order and their cost, and in promises 11 to 14. */
public final class PathBoundsTest {
    private static final int MIN = Integer.MIN_VALUE;
    private static final int MAX = Integer.MAX_VALUE;
    private static final int NONE = Trellistag.NONE;

    public static void main(String[] args) {
        ranksZeroToNine();
        placesOfNone();
        placesOfOne();
        placesOfFive();
        fivePathsOfOneWord();
        moreThanTenPaths();
        onePathOfLocks();
        fivePathsOfLocks();
        lockedAgainstTheBestPath();
        alikeByTheFirstTag();
        alikeByTheSecondTag();
        alikeByTheLastTag();
        heavierAheadOfLower();
        tenthPathOfManyAlike();
        productsOfNone();
        productsOfTooFewPaths();
        leastAndGreatestProduct();
        costOfNone();
        costsBesidePowersOfTwo();
        costsOfLongPaths();
        costOfLockedPaths();
        oneWordHasNoStep();
        Check.finish();
    }

    private static void paths(Scene scene, int rank, int places, String due) {
        Check.due("path of rank " + rank, scene.path(rank, places), due);
        Check.due("pathAnew of rank " + rank, scene.pathAnew(rank, places), due);
    }

    /** "0 to 9: how many paths are ahead of it". */
    private static void ranksZeroToNine() {
        Scene scene = new Scene().sentence("a b");
        paths(scene, 0, 2, "0 0");
        paths(scene, 9, 2, "1 4");
        Check.answers("product(9)", 1L, () -> scene.x.product(9));
        for (int rank : new int[] {MIN, -2, NONE, 10, 11, MAX}) {
            Check.outOfBounds("path(" + rank + ", 0)", () -> scene.x.path(rank, 0));
            Check.outOfBounds("pathAnew(" + rank + ", 0)", () -> scene.x.pathAnew(rank, 0));
            Check.outOfBounds("product(" + rank + ")", () -> scene.x.product(rank));
        }
    }

    private static void noSuchPlaces(Trellistag x, int... places) {
        for (int place : places) {
            for (int rank : new int[] {0, 9}) {
                Check.outOfBounds("path(" + rank + ", " + place + ")", () -> x.path(rank, place));
                Check.outOfBounds("pathAnew(" + rank + ", " + place + ")", () -> x.pathAnew(rank, place));
            }
        }
    }

    /** "of the place of the sentence": an empty one has none. */
    private static void placesOfNone() {
        noSuchPlaces(new Scene().text("a/0").type("b").x, MIN, -1, 0, 1, 4, 5, MAX);
    }

    /** "of the place of the sentence": of one word, only 0. */
    private static void placesOfOne() {
        Scene scene = new Scene().sentence("a");
        noSuchPlaces(scene.x, MIN, -1, 1, 4, 5, MAX);
        paths(scene, 0, 1, "0");
    }

    /** "of the place of the sentence": of five words, 0 to 4. */
    private static void placesOfFive() {
        Scene scene = new Scene().text("a/4 b/3 c/2 d/1 e/0").sentence("a b c d e");
        noSuchPlaces(scene.x, MIN, -1, 5, 6, MAX);
        paths(scene, 0, 5, "4 3 2 1 0");
    }

    /** "NONE if there are not so many paths": one word has five. */
    private static void fivePathsOfOneWord() {
        Scene scene = new Scene().text("a/3").sentence("a");
        String[] due = {"3", "0", "1", "2", "4", "-1", "-1", "-1", "-1", "-1"};
        for (int rank = 0; rank < 10; rank++) {
            paths(scene, rank, 1, due[rank]);
        }
    }

    /** "NONE if there are not so many paths": of 25 paths none of the first ten is NONE. */
    private static void moreThanTenPaths() {
        Scene scene = new Scene().sentence("a b");
        for (int rank = 0; rank < 10; rank++) {
            paths(scene, rank, 2, rank / 5 + " " + rank % 5);
        }
    }

    /** "NONE if there are not so many paths": where all places are locked there is one. */
    private static void onePathOfLocks() {
        Scene scene = new Scene().sentence("a b c d e");
        for (int place = 0; place < 5; place++) {
            scene.x.lock(place, place);
        }
        paths(scene, 0, 5, "0 1 2 3 4");
        for (int rank = 1; rank < 10; rank++) {
            int of = rank;
            paths(scene, rank, 5, "-1 -1 -1 -1 -1");
            Check.answers("product of rank " + rank, 0L, () -> scene.x.product(of));
        }
        Check.answers("its product", 1L, () -> scene.x.product(0));
        Check.answers("its cost", 60, scene.x::cost);
    }

    /** "paths with another one there do not count": five of 25 are left. */
    private static void fivePathsOfLocks() {
        Scene scene = new Scene().sentence("a b");
        scene.x.lock(1, 2);
        paths(scene, 4, 2, "4 2");
        paths(scene, 5, 2, "-1 -1");
        scene.x.lock(1, NONE);
        scene.x.lock(0, 2);
        paths(scene, 4, 2, "2 4");
        paths(scene, 5, 2, "-1 -1");
        paths(scene, 9, 2, "-1 -1");
    }

    /** "paths with another one there do not count": the best path is another one then, at other places, too. */
    private static void lockedAgainstTheBestPath() {
        Scene scene = new Scene().text("a/0 b/1").text("c/2 d/3").sentence("a d");
        paths(scene, 0, 2, "0 3");
        Check.answers("2 times 5 times 5", 50L, () -> scene.x.product(0));
        scene.x.lock(0, 4);
        paths(scene, 0, 2, "4 3");
        Check.answers("1 times 1 times 5", 5L, () -> scene.x.product(0));
        scene.x.lock(1, 4);
        paths(scene, 0, 2, "4 4");
        Check.answers("1", 1L, () -> scene.x.product(0));
    }

    /** "of alike ones by their tags, the lowest first one first": also where the second one is higher. */
    private static void alikeByTheFirstTag() {
        Scene scene = new Scene().text("x/0 y/4").text("x/1 y/0").sentence("a b");
        paths(scene, 0, 2, "0 4");
        paths(scene, 1, 2, "1 0");
        Check.answers("the first product", 4L, () -> scene.x.product(0));
        Check.answers("the second product", 4L, () -> scene.x.product(1));
    }

    /** "then by the second one": also where the third one is higher. */
    private static void alikeByTheSecondTag() {
        Scene scene = new Scene().text("x/0 y/1 z/4").text("x/0 y/2 z/0").sentence("a b c");
        Check.answers("3 times 2 times 2", 12L, () -> scene.x.product(0));
        paths(scene, 0, 3, "0 1 4");
        Check.answers("also 12", 12L, () -> scene.x.product(1));
        paths(scene, 1, 3, "0 2 0");
    }

    /** "and so on": of five words by the last one. */
    private static void alikeByTheLastTag() {
        Scene scene = new Scene().sentence("a b c d e");
        for (int place = 0; place < 4; place++) {
            scene.x.lock(place, 4);
        }
        for (int tag = 0; tag < 5; tag++) {
            paths(scene, tag, 5, "4 4 4 4 " + tag);
        }
        paths(scene, 5, 5, "-1 -1 -1 -1 -1");
    }

    /** "by their weights, the greatest first": ahead of all lower tags. */
    private static void heavierAheadOfLower() {
        Scene scene = new Scene().text("z/4 z/4").sentence("a b");
        paths(scene, 0, 2, "4 4");
        Check.answers("2 times 2", 4L, () -> scene.x.product(0));
        String[] due = {"4 0", "4 1", "4 2", "4 3", "0 0", "0 1", "0 2", "0 3"};
        for (int rank = 1; rank < 9; rank++) {
            paths(scene, rank, 2, due[rank - 1]);
            long product = rank < 5 ? 2 : 1;
            int of = rank;
            Check.answers("product of rank " + rank, product, () -> scene.x.product(of));
        }
    }

    /** Of 3125 paths of one weight, the ten with the lowest tags. */
    private static void tenthPathOfManyAlike() {
        Scene scene = new Scene().sentence("a b c d e");
        paths(scene, 8, 5, "0 0 0 1 3");
        paths(scene, 9, 5, "0 0 0 1 4");
        Check.answers("product of rank 9", 1L, () -> scene.x.product(9));
    }

    /** "if the sentence is empty", and rank is named ahead of it. */
    private static void productsOfNone() {
        Scene scene = new Scene().text("a/0").draft("b/0").type("c");
        for (int rank = 0; rank < 10; rank++) {
            int of = rank;
            Check.illegalState("product(" + rank + ") of no sentence", () -> scene.x.product(of));
        }
        for (int rank : new int[] {MIN, -1, 10, MAX}) {
            Check.outOfBounds("product(" + rank + ") of no sentence", () -> scene.x.product(rank));
        }
        scene.x.word();
        Check.answers("product(0) of one word", 2L, () -> scene.x.product(0));
        scene.x.clear();
        Check.illegalState("product(0) of a sentence that is empty again", () -> scene.x.product(0));
    }

    /** "0 if there are not so many". */
    private static void productsOfTooFewPaths() {
        Scene scene = new Scene().text("a/3").sentence("a");
        long[] due = {10, 1, 1, 1, 1, 0, 0, 0, 0, 0};
        for (int rank = 0; rank < 10; rank++) {
            int of = rank;
            Check.answers("product(" + rank + ")", due[rank], () -> scene.x.product(of));
        }
        scene.x.lock(0, 1);
        Check.answers("product(0) of the only path", 1L, () -> scene.x.product(0));
        Check.answers("product(1) of the only path", 0L, () -> scene.x.product(1));
    }

    private static Scene heaviest() {
        Scene scene = new Scene();
        for (int i = 0; i < 20; i++) {
            scene.text("a/4 a/4 a/4 a/4 a/4 a/4");
        }
        return scene;
    }

    /** "The weight of a path is the product": from 1 to 7 times 9, five times. */
    private static void leastAndGreatestProduct() {
        Scene scene = heaviest().sentence("a");
        long due = 1;
        for (int words = 1; words <= 5; words++) {
            due *= 63;
            long product = due;
            Check.answers("product(0) of words: " + words, product, () -> scene.x.product(0));
            if (words < 5) {
                scene.sentence("a");
            }
        }
        Scene least = new Scene().sentence("a b c d e");
        Check.answers("product(0) without texts", 1L, () -> least.x.product(0));
    }

    /** "if the sentence is empty". */
    private static void costOfNone() {
        Scene scene = new Scene().text("a/0").draft("b/0").type("c");
        Check.illegalState("cost() of no sentence", scene.x::cost);
        scene.x.word();
        Check.answers("cost() of one word", 59, scene.x::cost);
        scene.x.clear();
        Check.illegalState("cost() of a sentence that is empty again", scene.x::cost);
    }

    private static void cost(Scene scene, long weight, int due) {
        Check.answers("the weight " + weight, weight, () -> scene.x.product(0));
        Check.answers("the cost of " + weight, due, scene.x::cost);
    }

    /**
     * "how often its weight has to be doubled to be above 1152921504606846975", which is one less than 60 doublings of
     * 1: so powers of two just reach it, and weights that are one less need one doubling more.
     */
    private static void costsBesidePowersOfTwo() {
        Scene scene = new Scene().sentence("a");
        int[] due = {60, 59, 59, 58, 58, 58, 58};
        for (int weight = 1; weight <= 7; weight++) {
            cost(scene, weight, due[weight - 1]);
            scene.text("z/0");
        }
        cost(new Scene().text("x/0 y/1").text("x/2 x/0 y/1").text("x/2 x/0 y/1").sentence("a b").locks("0 1"), 8, 57);
        cost(new Scene().text("x/0").text("x/0").text("x/0").text("za/0").sentence("a"), 15, 57);
        cost(new Scene().text("x/0 y/1").text("x/0 y/1").text("x/0 y/1").sentence("a b"), 16, 56);
        cost(heaviest().sentence("a"), 63, 55);
        Scene steps = new Scene().text("x/0 x/0 x/0 x/0").text("x/0").text("x/0").sentence("a b c");
        cost(steps, 64, 54);
    }

    /** The cost of the heaviest paths that there can be. */
    private static void costsOfLongPaths() {
        Scene scene = heaviest();
        int[] due = {55, 49, 43, 37, 31};
        long weight = 1;
        for (int words = 1; words <= 5; words++) {
            weight *= 63;
            cost(scene.sentence("a"), weight, due[words - 1]);
        }
    }

    /** "the cost of the best path": of those that count. */
    private static void costOfLockedPaths() {
        Scene scene = new Scene().text("a/2").sentence("a");
        cost(scene, 10, 57);
        scene.x.lock(0, 0);
        cost(scene, 1, 60);
        scene.x.lock(0, 2);
        cost(scene, 10, 57);
        scene.x.text(0, false);
        cost(scene, 1, 60);
    }

    /** "of its steps": a path of one word has none, one of two has one. */
    private static void oneWordHasNoStep() {
        Scene scene = new Scene().text("x/0 x/0 x/0").sentence("a");
        Check.answers("the first tag alone", 2L, () -> scene.x.product(0));
        scene.sentence("b");
        Check.answers("and a step", 6L, () -> scene.x.product(0));
    }
}
