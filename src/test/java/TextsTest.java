/** Promises 1 to 5 and 17: a new object, letter, tag, add, text, texts. */
public final class TextsTest {
    public static void main(String[] args) {
        letters();
        tags();
        adds();
        textsInAndOut();
        countsGrowAndShrink();
        Check.finish();
    }

    private static void letters() {
        Trellistag x = new Trellistag();
        Check.answers("letter a", 1, () -> x.letter('a'));
        Check.answers("letter z", 2, () -> x.letter('z'));
        Check.answers("letter m", 3, () -> x.letter('m'));
        x.word();
        Check.answers("letter behind word()", 1, () -> x.letter('m'));
        x.tag(0);
        Check.answers("letter behind tag()", 1, () -> x.letter('m'));
        x.add();
        Check.answers("letter behind add()", 2, () -> x.letter('m'));
        x.clear();
        Check.answers("letter behind clear()", 3, () -> x.letter('m'));
    }

    private static void tags() {
        Scene scene = new Scene();
        for (int i = 1; i <= 3; i++) {
            scene.type("w");
            int due = i;
            Check.answers("tag() of word " + i, due, () -> scene.x.tag(due));
        }
        scene.x.add();
        scene.type("w");
        Check.answers("tag() behind add()", 1, () -> scene.x.tag(0));
    }

    private static void adds() {
        Scene scene = new Scene();
        for (int i = 0; i < 5; i++) {
            scene.draft("w/" + i % 3);
            int due = i;
            Check.answers("add() " + i, due, scene.x::add);
            Check.answers("texts() behind it", due + 1, scene.x::texts);
        }
        Check.due("firsts", scene.steps(Trellistag.NONE), "3 3 2 1 1");
    }

    private static void textsInAndOut() {
        Trellistag x = new Scene().text("a/0").text("b/1").x;
        Check.answers("put in what counts", true, () -> x.text(0, true));
        Check.answers("texts()", 2, x::texts);
        Check.answers("firsts of tag 0", 2, () -> x.step(-1, 0));
        Check.answers("take out", true, () -> x.text(0, false));
        Check.answers("texts() with one out", 1, x::texts);
        Check.answers("take out again", false, () -> x.text(0, false));
        Check.answers("texts() still", 1, x::texts);
        Check.answers("firsts of tag 0, out", 1, () -> x.step(-1, 0));
        Check.answers("firsts of tag 1, in", 2, () -> x.step(-1, 1));
        Check.answers("take out the other", true, () -> x.text(1, false));
        Check.answers("texts() with both out", 0, x::texts);
        Check.answers("put in", false, () -> x.text(0, true));
        Check.answers("put in again", true, () -> x.text(0, true));
        Check.answers("texts() with one in", 1, x::texts);
        Check.answers("firsts of tag 0, in", 2, () -> x.step(-1, 0));
    }

    private static void countsGrowAndShrink() {
        Scene scene = new Scene().text("ab/0 ab/1 ab/1").text("ab/1 cb/2").type("ab");
        Check.due("both count", scene.weights(), "5 9 1 1 1");
        scene.x.text(0, false);
        Check.due("only the second counts", scene.weights(), "1 5 1 1 1");
        Check.answers("step(1, 1), out", 1, () -> scene.x.step(1, 1));
        Check.answers("step(1, 2), in", 2, () -> scene.x.step(1, 2));
        scene.x.text(1, false);
        Check.due("none counts", scene.weights(), "1 1 1 1 1");
        scene.x.text(0, true);
        Check.due("only the first counts", scene.weights(), "5 9 1 1 1");
        Check.answers("step(1, 1), in", 2, () -> scene.x.step(1, 1));
        Check.answers("step(0, 1), in", 2, () -> scene.x.step(0, 1));
    }
}
