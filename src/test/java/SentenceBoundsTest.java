/** The edges that the document names of the sentence, in "Weights" and in promises 6 to 8, a test for each sentence. */
public final class SentenceBoundsTest {
    private static final int MIN = Integer.MIN_VALUE;
    private static final int MAX = Integer.MAX_VALUE;
    private static final int NONE = Trellistag.NONE;

    public static void main(String[] args) {
        upToFiveWords();
        wordOfNothing();
        nothingIsTypedBehindWord();
        wordsOfOneAndOfSixLetters();
        clearOfNone();
        clearOfOne();
        clearOfFive();
        clearTakesTheLocks();
        clearTakesNothingElse();
        placesOfNone();
        placesOfOne();
        placesOfFive();
        tagsOfLocks();
        unlockedAtFirst();
        lockedAlready();
        unlockedAlready();
        otherPlacesKeepTheirLocks();
        newPlacesAreNotLocked();
        Check.finish();
    }

    /** "A sentence has up to 5 words", "or it has 5". */
    private static void upToFiveWords() {
        Scene scene = new Scene();
        for (int i = 1; i <= 5; i++) {
            Check.answers("word() " + i, i, scene.type("w").x::word);
        }
        scene.type("abcde");
        Check.illegalState("a sixth word", scene.x::word);
        Check.illegalState("a sixth word again", scene.x::word);
        Check.answers("it is still typed", 6, () -> scene.x.letter('f'));
        Check.answers("the fifth place", 0, () -> scene.x.path(0, 4));
        Check.outOfBounds("the sixth place", () -> scene.x.path(0, 5));
        Check.answers("five words are cleared", 5, scene.x::clear);
        Check.answers("it is the first word then", 1, scene.x::word);
    }

    /** "if nothing is typed": of an empty sentence, of one with words, of a full one. */
    private static void wordOfNothing() {
        Scene scene = new Scene();
        Check.illegalState("word() of nothing, empty sentence", scene.x::word);
        for (int i = 1; i <= 5; i++) {
            scene.sentence("w");
            Check.illegalState("word() of nothing behind " + i, scene.x::word);
        }
        Check.answers("clear()", 5, scene.x::clear);
    }

    /** "nothing is typed then", of word. */
    private static void nothingIsTypedBehindWord() {
        Scene scene = new Scene().sentence("abcdef");
        Check.illegalState("word() again", scene.x::word);
        Check.illegalState("tag(0) of nothing", () -> scene.x.tag(0));
        Check.illegalState("weight(0) of nothing", () -> scene.x.weight(0));
        Check.answers("the next letter is the first", 1, () -> scene.x.letter('a'));
        scene.text("b/1");
        Check.due("nothing of the word ahead is left", scene.type("a").weights(), "1 1 1 1 1");
    }

    private static void wordsOfOneAndOfSixLetters() {
        Scene scene = new Scene().text("a/1 bcdefg/2").sentence("a bcdefg");
        Check.due("one letter, and six", scene.path(0, 2), "1 2");
        Check.answers("2 times 5, 2 times 5", 100L, () -> scene.x.product(0));
    }

    /** "returns how many words it had": none. */
    private static void clearOfNone() {
        Scene scene = new Scene();
        Check.answers("clear() of none", 0, scene.x::clear);
        scene.type("w").draft("w/0");
        Check.answers("words that are typed or tagged are none of it", 0, scene.x::clear);
    }

    /** "returns how many words it had": one, and none then. */
    private static void clearOfOne() {
        Scene scene = new Scene().sentence("w");
        Check.answers("clear() of one", 1, scene.x::clear);
        Check.answers("clear() again", 0, scene.x::clear);
        Check.illegalState("it has no cost", scene.x::cost);
        Check.illegalState("it has no product", () -> scene.x.product(0));
        Check.outOfBounds("it has no path", () -> scene.x.path(0, 0));
        Check.outOfBounds("it has no path anew", () -> scene.x.pathAnew(0, 0));
        Check.outOfBounds("it has no share", () -> scene.x.share(0, 0));
        Check.outOfBounds("it has no share anew", () -> scene.x.shareAnew(0, 0));
        Check.outOfBounds("it has no lock", () -> scene.x.lock(0, NONE));
    }

    /** "returns how many words it had": as many as there can be, and the next sentence can have so many again. */
    private static void clearOfFive() {
        Scene scene = new Scene().text("a/1 b/2").sentence("a a a a a");
        Check.answers("clear() of five", 5, scene.x::clear);
        scene.sentence("b b b b b").type("b");
        Check.illegalState("a sixth word", scene.x::word);
        scene.x.lock(0, 2);
        Check.due("of the words ahead none is left", scene.path(0, 5), "2 2 2 2 2");
        Check.answers("clear() of five again", 5, scene.x::clear);
    }

    /** "Empties the sentence, with its locks". */
    private static void clearTakesTheLocks() {
        Scene scene = new Scene().sentence("a b c d e");
        for (int place = 0; place < 5; place++) {
            scene.x.lock(place, 4);
        }
        scene.x.clear();
        scene.sentence("a b c d e");
        Check.due("the best path", scene.path(0, 5), "0 0 0 0 0");
        for (int place = 0; place < 5; place++) {
            Check.due("shares at " + place, scene.shares(place), "200 200 200 200 200");
            int at = place;
            Check.answers("lock at " + at, NONE, () -> scene.x.lock(at, NONE));
        }
    }

    /** "Empties the sentence": not the word that is typed, the draft, the texts. */
    private static void clearTakesNothingElse() {
        Scene scene = new Scene().text("abc/0").draft("b/1").sentence("a b").type("abc");
        scene.x.clear();
        Check.due("the word is still typed", scene.weights(), "5 1 1 1 1");
        Check.answers("with all its letters", 4, () -> scene.x.letter('d'));
        Check.answers("the text still counts", 1, scene.x::texts);
        Check.answers("the draft is still there", 2, () -> scene.x.tag(0));
    }

    private static void noSuchPlaces(Trellistag x, int... places) {
        for (int place : places) {
            for (int tag = NONE; tag < 5; tag++) {
                int to = tag;
                Check.outOfBounds("lock(" + place + ", " + tag + ")", () -> x.lock(place, to));
            }
        }
    }

    /** "of the place of the sentence": an empty one has none. */
    private static void placesOfNone() {
        noSuchPlaces(new Trellistag(), MIN, -1, 0, 1, 4, 5, MAX);
    }

    /** "of the place of the sentence": of one word, only 0. */
    private static void placesOfOne() {
        Scene scene = new Scene().sentence("a");
        noSuchPlaces(scene.x, MIN, -1, 1, 4, 5, MAX);
        Check.answers("lock(0, 1)", NONE, () -> scene.x.lock(0, 1));
        Check.answers("the path", 1, () -> scene.x.path(0, 0));
    }

    /** "of the place of the sentence": of five words, 0 to 4. */
    private static void placesOfFive() {
        Scene scene = new Scene().sentence("a b c d e");
        noSuchPlaces(scene.x, MIN, -1, 5, 6, MAX);
        for (int place = 0; place < 5; place++) {
            int at = place;
            Check.answers("lock(" + at + ", " + (4 - at) + ")", NONE, () -> scene.x.lock(at, 4 - at));
        }
        Check.due("the path", scene.path(0, 5), "4 3 2 1 0");
        Check.due("no other", scene.path(1, 5), "-1 -1 -1 -1 -1");
    }

    /** "0 to 4, or NONE to unlock". */
    private static void tagsOfLocks() {
        Trellistag x = new Scene().sentence("a").x;
        int before = NONE;
        for (int tag = 0; tag < 5; tag++) {
            int due = before;
            int to = tag;
            Check.answers("lock(0, " + tag + ")", due, () -> x.lock(0, to));
            Check.answers("the path", to, () -> x.path(0, 0));
            for (int wrong : new int[] {MIN, -2, 5, 6, MAX}) {
                Check.outOfBounds("lock(0, " + wrong + ")", () -> x.lock(0, wrong));
            }
            Check.answers("the path is still locked", to, () -> x.path(0, 0));
            before = tag;
        }
        Check.answers("lock(0, NONE)", 4, () -> x.lock(0, NONE));
        Check.answers("the path is not locked", 0, () -> x.path(0, 0));
    }

    /** "NONE for none". */
    private static void unlockedAtFirst() {
        Trellistag x = new Scene().sentence("a b").x;
        Check.answers("lock(0, NONE)", NONE, () -> x.lock(0, NONE));
        Check.answers("lock(1, 0)", NONE, () -> x.lock(1, 0));
        Check.answers("lock(1, NONE)", 0, () -> x.lock(1, NONE));
    }

    /** "Returns the tag to which it was locked": to another tag, and to the same one. */
    private static void lockedAlready() {
        Trellistag x = new Scene().sentence("a").x;
        x.lock(0, 3);
        Check.answers("to the same", 3, () -> x.lock(0, 3));
        Check.answers("to another", 3, () -> x.lock(0, 4));
        Check.answers("the path", 4, () -> x.path(0, 0));
        Check.answers("unlock", 4, () -> x.lock(0, NONE));
    }

    private static void unlockedAlready() {
        Trellistag x = new Scene().sentence("a").x;
        x.lock(0, 3);
        Check.answers("unlock", 3, () -> x.lock(0, NONE));
        Check.answers("unlock again", NONE, () -> x.lock(0, NONE));
        Check.answers("the path", 0, () -> x.path(0, 0));
        Check.answers("and all others", 4, () -> x.path(4, 0));
    }

    private static void otherPlacesKeepTheirLocks() {
        Scene scene = new Scene().sentence("a b c");
        scene.x.lock(0, 1);
        scene.x.lock(2, 3);
        Check.answers("the place between", NONE, () -> scene.x.lock(1, 2));
        Check.due("all three", scene.path(0, 3), "1 2 3");
        Check.answers("unlock the place between", 2, () -> scene.x.lock(1, NONE));
        Check.due("the first and the last", scene.path(0, 3), "1 0 3");
        Check.answers("the first", 1, () -> scene.x.lock(0, NONE));
        Check.answers("the last", 3, () -> scene.x.lock(2, NONE));
    }

    /** A word that is put behind a locked place is not locked. */
    private static void newPlacesAreNotLocked() {
        Scene scene = new Scene().sentence("a");
        scene.x.lock(0, 4);
        scene.sentence("b c d e");
        Check.due("only the first place is locked", scene.path(0, 5), "4 0 0 0 0");
        Check.due("the last place has all tags", scene.path(4, 5), "4 0 0 0 4");
    }
}
