/** Promises 6 to 8: word, clear, lock. */
public final class SentenceTest {
    public static void main(String[] args) {
        words();
        wordsRefused();
        clears();
        locks();
        locksRefused();
        locksEndWithTheSentence();
        Check.finish();
    }

    private static void words() {
        Scene scene = new Scene();
        for (int i = 1; i <= 5; i++) {
            scene.type("w");
            Check.answers("word() " + i, i, scene.x::word);
            Check.illegalState("word() of nothing", scene.x::word);
        }
        Check.answers("the fifth place", 0, () -> scene.x.path(0, 4));
        Check.outOfBounds("a sixth place", () -> scene.x.path(0, 5));
    }

    private static void wordsRefused() {
        Scene scene = new Scene().sentence("a b c d e").type("f");
        Check.illegalState("a word too many", scene.x::word);
        Check.answers("it is still typed", 2, () -> scene.x.letter('f'));
        Check.answers("clear()", 5, scene.x::clear);
        Check.answers("word() behind clear()", 1, scene.x::word);
    }

    private static void clears() {
        Scene scene = new Scene().text("a/0").draft("b/1").sentence("a b").type("abc");
        Check.answers("clear()", 2, scene.x::clear);
        Check.answers("clear() again", 0, scene.x::clear);
        Check.answers("the word is still typed", 4, () -> scene.x.letter('d'));
        Check.answers("the text still counts", 1, scene.x::texts);
        Check.answers("the draft is still there", 2, () -> scene.x.tag(0));
        Check.illegalState("no sentence has a cost", scene.x::cost);
        Check.illegalState("no sentence has a product", () -> scene.x.product(0));
        Check.outOfBounds("no sentence has a place", () -> scene.x.share(0, 0));
    }

    private static void locks() {
        Trellistag x = new Scene().sentence("a b").x;
        Check.answers("unlock what is not locked", -1, () -> x.lock(0, Trellistag.NONE));
        Check.answers("lock", -1, () -> x.lock(0, 3));
        Check.answers("lock anew", 3, () -> x.lock(0, 0));
        Check.answers("lock alike", 0, () -> x.lock(0, 0));
        Check.answers("the other place is not locked", -1, () -> x.lock(1, 4));
        Check.answers("unlock", 0, () -> x.lock(0, Trellistag.NONE));
        Check.answers("unlock again", -1, () -> x.lock(0, Trellistag.NONE));
        Check.answers("the other place is locked still", 4, () -> x.lock(1, 4));
        Check.answers("best path", 4, () -> x.path(0, 1));
        Check.answers("paths that are left", 0L, () -> x.product(5));
    }

    private static void locksRefused() {
        Trellistag x = new Scene().sentence("a b").x;
        x.lock(0, 2);
        for (int place : new int[] {-1, 2, 4, 5, Integer.MIN_VALUE, Integer.MAX_VALUE}) {
            Check.outOfBounds("lock(" + place + ", 1)", () -> x.lock(place, 1));
            Check.outOfBounds("lock(" + place + ", NONE)", () -> x.lock(place, Trellistag.NONE));
        }
        for (int tag : new int[] {-2, 5, Integer.MIN_VALUE, Integer.MAX_VALUE}) {
            Check.outOfBounds("lock(0, " + tag + ")", () -> x.lock(0, tag));
        }
        Check.answers("the lock is as it was", 2, () -> x.lock(0, 2));
        Check.outOfBounds("lock of an empty sentence", () -> new Trellistag().lock(0, Trellistag.NONE));
    }

    private static void locksEndWithTheSentence() {
        Scene scene = new Scene().sentence("a b c d e");
        for (int place = 0; place < 5; place++) {
            scene.x.lock(place, 4);
        }
        scene.x.clear();
        scene.sentence("a b c d e");
        for (int place = 0; place < 5; place++) {
            int at = place;
            Check.answers("lock at " + at, -1, () -> scene.x.lock(at, Trellistag.NONE));
        }
        Check.due("best path", scene.path(0, 5), "0 0 0 0 0");
    }
}
