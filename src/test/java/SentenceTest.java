/** Promises 6 to 8: word, clear, lock. */
public final class SentenceTest {
    public static void main(String[] args) {
        words();
        clears();
        locks();
        Check.finish();
    }

    private static void words() {
        Scene scene = new Scene();
        for (int i = 1; i <= 3; i++) {
            scene.type("w");
            Check.answers("word() " + i, i, scene.x::word);
        }
        Check.due("the best path", scene.path(0, 3), "0 0 0");
    }

    private static void clears() {
        Scene scene = new Scene().text("a/0").draft("b/1").sentence("a b").type("abc");
        Check.answers("clear()", 2, scene.x::clear);
        Check.answers("clear() again", 0, scene.x::clear);
        Check.answers("the word is still typed", 4, () -> scene.x.letter('d'));
        Check.answers("the text still counts", 1, scene.x::texts);
        Check.answers("the draft is still there", 2, () -> scene.x.tag(0));
        Check.illegalState("no sentence has a cost", scene.x::cost);
        Check.illegalState("no sentence has a product", () -> scene.x.product(0));
        Check.outOfBounds("no sentence has a place", () -> scene.x.share(0, 0));
    }

    private static void locks() {
        Trellistag x = new Scene().sentence("a b").x;
        Check.answers("unlock what is not locked", -1, () -> x.lock(0, Trellistag.NONE));
        Check.answers("lock", -1, () -> x.lock(0, 3));
        Check.answers("lock anew", 3, () -> x.lock(0, 0));
        Check.answers("lock alike", 0, () -> x.lock(0, 0));
        Check.answers("the other place is not locked", -1, () -> x.lock(1, 4));
        Check.answers("unlock", 0, () -> x.lock(0, Trellistag.NONE));
        Check.answers("unlock again", -1, () -> x.lock(0, Trellistag.NONE));
        Check.answers("the other place is locked still", 4, () -> x.lock(1, 4));
        Check.answers("best path", 4, () -> x.path(0, 1));
        Check.answers("paths that are left", 0L, () -> x.product(5));
    }
}
