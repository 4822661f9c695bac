/** Promises 9 and 10: weight, step. */
public final class WeightTest {
    public static void main(String[] args) {
        knownWords();
        endings();
        weightsOfTheSentence();
        steps();
        Check.finish();
    }

    private static void knownWords() {
        Scene scene = new Scene().text("cat/0 cat/0 cat/1 rat/2").type("cat");
        Check.due("a known word goes by itself alone", scene.weights(), "9 5 1 1 1");
        scene.x.word();
        scene.text("a/3 ba/4").type("a");
        Check.due("a known word of one letter", scene.weights(), "1 1 1 5 1");
        scene.x.letter('a');
        Check.due("its ending is another word", scene.weights(), "1 1 1 3 3");
    }

    private static void endings() {
        Scene scene = new Scene().text("cat/0 cat/0 cat/0 cat/0 hat/1").type("that");
        Check.due("by hat, not by at", scene.weights(), "1 3 1 1 1");
        scene.x.tag(4);
        scene.type("zat");
        Check.due("by at; 2 times 4, and 1 is 9", scene.weights(), "9 3 1 1 1");
        scene.x.add();
        Check.due("that counts now", scene.weights(), "9 3 1 1 3");
        scene.x.word();
        scene.text("rat/0").type("zat");
        Check.due("at most 9", scene.weights(), "9 3 1 1 3");
        scene.x.word();
        scene.type("zzt");
        Check.due("by t", scene.weights(), "9 3 1 1 3");
        scene.x.word();
        scene.type("tz");
        Check.due("by no ending", scene.weights(), "1 1 1 1 1");
    }

    private static void weightsOfTheSentence() {
        Scene scene = new Scene().sentence("ab");
        Check.answers("ahead of the text", 1L, () -> scene.x.product(0));
        scene.text("ab/3");
        Check.answers("behind it: 2 times 5", 10L, () -> scene.x.product(0));
        Check.answers("its tag", 3, () -> scene.x.path(0, 0));
    }

    private static void steps() {
        Trellistag x = new Scene().text("a/0 b/1 c/0 d/1").text("a/1").text("e/1 e/1 e/1").x;
        Check.answers("step(0, 1)", 3, () -> x.step(0, 1));
        Check.answers("step(1, 0)", 2, () -> x.step(1, 0));
        Check.answers("step(1, 1): no step from text to text", 3, () -> x.step(1, 1));
        Check.answers("step(0, 0)", 1, () -> x.step(0, 0));
        Check.answers("step(NONE, 0)", 2, () -> x.step(Trellistag.NONE, 0));
        Check.answers("step(NONE, 1)", 3, () -> x.step(Trellistag.NONE, 1));
        Check.answers("step(NONE, 4)", 1, () -> x.step(Trellistag.NONE, 4));
    }
}
