/** Promises 9 and 10: weight, step. */
public final class WeightTest {
    public static void main(String[] args) {
        knownWords();
        endings();
        longestEnding();
        endingsOfShortWords();
        endingsOfTextsThatCount();
        weightsOfTheSentence();
        weightsRefused();
        steps();
        stepsAtMost();
        stepsRefused();
        Check.finish();
    }

    private static void knownWords() {
        Scene scene = new Scene().text("cat/0 cat/0 cat/1 rat/2").type("cat");
        Check.due("a known word goes by itself alone", scene.weights(), "9 5 1 1 1");
        scene.x.word();
        scene.text("a/3 ba/4").type("a");
        Check.due("a known word of one letter", scene.weights(), "1 1 1 5 1");
        scene.x.letter('a');
        Check.due("its ending is another word", scene.weights(), "1 1 1 3 3");
    }

    private static void endings() {
        Scene scene = new Scene().text("cat/0 cat/0 cat/0 cat/0 hat/1").type("that");
        Check.due("by hat, not by at", scene.weights(), "1 3 1 1 1");
        scene.x.tag(4);
        scene.type("zat");
        Check.due("by at; 2 times 4, and 1 is 9", scene.weights(), "9 3 1 1 1");
        scene.x.add();
        Check.due("that counts now", scene.weights(), "9 3 1 1 3");
        scene.x.word();
        scene.text("rat/0").type("zat");
        Check.due("at most 9", scene.weights(), "9 3 1 1 3");
        scene.x.word();
        scene.type("zzt");
        Check.due("by t", scene.weights(), "9 3 1 1 3");
        scene.x.word();
        scene.type("tz");
        Check.due("by no ending", scene.weights(), "1 1 1 1 1");
    }

    private static void longestEnding() {
        Scene scene = new Scene().text("xabcde/0 ycde/1 zde/2 e/3").type("wabcde");
        Check.due("three letters are the most", scene.weights(), "3 3 1 1 1");
        scene.x.word();
        scene.type("fde");
        Check.due("two letters", scene.weights(), "3 3 3 1 1");
        scene.x.word();
        scene.type("abe");
        Check.due("one letter", scene.weights(), "3 3 3 3 1");
        scene.x.word();
        scene.type("abd");
        Check.due("the letter ahead of an ending is none", scene.weights(), "1 1 1 1 1");
    }

    private static void endingsOfShortWords() {
        Scene scene = new Scene().text("abc/0 bc/1 c/2").type("xc");
        Check.due("an ending may be a whole word of a text", scene.weights(), "3 3 3 1 1");
        scene.x.word();
        scene.type("xbc");
        Check.due("a word ends no longer than it is", scene.weights(), "3 3 1 1 1");
        Scene other = new Scene().text("dabc/0 dbc/1").type("bc");
        Check.due("an ending may be the whole word that is typed", other.weights(), "3 3 1 1 1");
        other.x.word();
        other.type("abc");
        Check.due("and one of three letters", other.weights(), "3 1 1 1 1");
    }

    private static void endingsOfTextsThatCount() {
        Scene scene = new Scene().text("dabc/0").text("xbc/1").text("abc/2").type("abc");
        Check.due("the word itself", scene.weights(), "1 1 5 1 1");
        scene.x.text(2, false);
        Check.due("its longest ending", scene.weights(), "3 1 1 1 1");
        scene.x.text(0, false);
        Check.due("a shorter one", scene.weights(), "1 3 1 1 1");
        scene.x.text(1, false);
        Check.due("none", scene.weights(), "1 1 1 1 1");
        scene.x.text(2, true);
        Check.due("the word itself again", scene.weights(), "1 1 5 1 1");
    }

    private static void weightsOfTheSentence() {
        Scene scene = new Scene().sentence("ab");
        Check.answers("ahead of the text", 1L, () -> scene.x.product(0));
        scene.text("ab/3");
        Check.answers("behind it: 2 times 5", 10L, () -> scene.x.product(0));
        Check.answers("its tag", 3, () -> scene.x.path(0, 0));
    }

    private static void weightsRefused() {
        Scene scene = new Scene();
        for (int tag : new int[] {-1, -2, 5, Integer.MIN_VALUE, Integer.MAX_VALUE}) {
            Check.outOfBounds("weight(" + tag + ") of nothing", () -> scene.x.weight(tag));
        }
        Check.illegalState("weight(0) of nothing", () -> scene.x.weight(0));
        scene.type("a");
        Check.outOfBounds("weight(5)", () -> scene.x.weight(5));
        Check.outOfBounds("weight(-1)", () -> scene.x.weight(-1));
        Check.answers("weight(4)", 1, () -> scene.x.weight(4));
        scene.x.word();
        Check.illegalState("weight(4) behind word()", () -> scene.x.weight(4));
    }

    private static void steps() {
        Trellistag x = new Scene().text("a/0 b/1 c/0 d/1").text("a/1").text("e/1 e/1 e/1").x;
        Check.answers("step(0, 1)", 3, () -> x.step(0, 1));
        Check.answers("step(1, 0)", 2, () -> x.step(1, 0));
        Check.answers("step(1, 1): no step from text to text", 3, () -> x.step(1, 1));
        Check.answers("step(0, 0)", 1, () -> x.step(0, 0));
        Check.answers("step(NONE, 0)", 2, () -> x.step(Trellistag.NONE, 0));
        Check.answers("step(NONE, 1)", 3, () -> x.step(Trellistag.NONE, 1));
        Check.answers("step(NONE, 4)", 1, () -> x.step(Trellistag.NONE, 4));
    }

    private static void stepsAtMost() {
        Scene scene = new Scene();
        int[] firsts = {2, 3, 4, 5, 6, 7, 7, 7};
        int[] steps = {6, 7, 7, 7, 7, 7, 7, 7};
        for (int i = 0; i < 8; i++) {
            scene.text("a/4 a/4 a/4 a/4 a/4 a/4");
            int at = i;
            Check.answers("first in " + (i + 1) + " texts", firsts[at], () -> scene.x.step(-1, 4));
            Check.answers("steps in " + (i + 1) + " texts", steps[at], () -> scene.x.step(4, 4));
        }
        scene.x.text(0, false);
        scene.x.text(1, false);
        scene.x.text(2, false);
        Check.answers("above the most it is counted on", 6, () -> scene.x.step(-1, 4));
    }

    private static void stepsRefused() {
        Trellistag x = new Trellistag();
        for (int tag : new int[] {-2, 5, 6, Integer.MIN_VALUE, Integer.MAX_VALUE}) {
            Check.outOfBounds("step(" + tag + ", 0)", () -> x.step(tag, 0));
            Check.outOfBounds("step(0, " + tag + ")", () -> x.step(0, tag));
            Check.outOfBounds("step(NONE, " + tag + ")", () -> x.step(Trellistag.NONE, tag));
        }
        Check.outOfBounds("step(0, NONE)", () -> x.step(0, Trellistag.NONE));
        Check.outOfBounds("step(NONE, NONE)", () -> x.step(Trellistag.NONE, Trellistag.NONE));
    }
}
