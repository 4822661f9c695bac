/** Promises 1 to 5 and 17: a new object, letter, tag, add, text, texts. */
public final class TextsTest {
    public static void main(String[] args) {
        newObject();
        letters();
        lettersRefused();
        tags();
        tagsRefused();
        adds();
        addsRefused();
        textsInAndOut();
        textsRefused();
        countsGrowAndShrink();
        Check.finish();
    }

    private static void newObject() {
        Trellistag x = new Trellistag();
        Check.due("NONE", Trellistag.NONE, -1);
        Check.answers("texts() of a new object", 0, x::texts);
        Check.answers("clear() of a new object", 0, x::clear);
        Check.illegalState("add() of a new object", x::add);
        Check.illegalState("word() of a new object", x::word);
        Check.illegalState("cost() of a new object", x::cost);
        Check.illegalState("weight(0) of a new object", () -> x.weight(0));
        Check.answers("step(NONE, 0) of a new object", 1, () -> x.step(Trellistag.NONE, 0));
        Check.answers("step(4, 4) of a new object", 1, () -> x.step(4, 4));
        Check.outOfBounds("text(0, true) of a new object", () -> x.text(0, true));
        Check.outOfBounds("path(0, 0) of a new object", () -> x.path(0, 0));
        new Scene().text("a/1").sentence("b");
        Trellistag y = new Trellistag();
        Check.answers("texts() beside another object", 0, y::texts);
    }

    private static void letters() {
        Trellistag x = new Trellistag();
        Check.answers("letter a", 1, () -> x.letter('a'));
        Check.answers("letter z", 2, () -> x.letter('z'));
        Check.answers("letter m", 3, () -> x.letter('m'));
        x.word();
        Check.answers("letter behind word()", 1, () -> x.letter('m'));
        x.tag(0);
        Check.answers("letter behind tag()", 1, () -> x.letter('m'));
        x.add();
        Check.answers("letter behind add()", 2, () -> x.letter('m'));
        x.clear();
        Check.answers("letter behind clear()", 3, () -> x.letter('m'));
    }

    private static void lettersRefused() {
        Scene scene = new Scene().type("abcde");
        Trellistag x = scene.x;
        char[] others = {'a' - 1, 'z' + 1, 'A', 'Z', ' ', '0', 0, 127, 225, 256 + 'a', 65535};
        for (char other : others) {
            Check.illegalArgument("letter " + (int) other, () -> x.letter(other));
        }
        Check.answers("sixth letter", 6, () -> x.letter('f'));
        Check.illegalState("seventh letter", () -> x.letter('g'));
        Check.illegalArgument("seventh letter that is none", () -> x.letter('G'));
        scene.x.tag(3);
        scene.x.add();
        Check.due("the word has only its six letters", scene.type("abcdef").weights(), "1 1 1 5 1");
    }

    private static void tags() {
        Scene scene = new Scene();
        for (int i = 1; i <= 6; i++) {
            scene.type("w");
            int due = i;
            Check.answers("tag() of word " + i, due, () -> scene.x.tag(due % 5));
        }
        scene.x.add();
        scene.type("w");
        Check.answers("tag() behind add()", 1, () -> scene.x.tag(0));
    }

    private static void tagsRefused() {
        Scene scene = new Scene();
        Trellistag x = scene.x;
        Check.illegalState("tag(0) of nothing", () -> x.tag(0));
        Check.outOfBounds("tag(5) of nothing", () -> x.tag(5));
        Check.outOfBounds("tag(-1) of nothing", () -> x.tag(-1));
        scene.draft("a/0 b/1 c/2 d/3 e/4 f/0").type("g");
        Check.illegalState("tag(4) of a full draft", () -> x.tag(4));
        Check.outOfBounds("tag(5) of a full draft", () -> x.tag(5));
        Check.outOfBounds("tag(MIN) of a full draft", () -> x.tag(Integer.MIN_VALUE));
        Check.outOfBounds("tag(MAX) of a full draft", () -> x.tag(Integer.MAX_VALUE));
        Check.answers("the word is still typed", 2, () -> x.letter('g'));
        x.add();
        Check.answers("and can go into the next draft", 1, () -> x.tag(4));
        Check.answers("none of it was in the text", 1, () -> x.step(0, 4));
    }

    private static void adds() {
        Scene scene = new Scene();
        for (int i = 0; i < 20; i++) {
            scene.draft("w/" + i % 5);
            int due = i;
            Check.answers("add() " + i, due, scene.x::add);
            Check.answers("texts() behind it", due + 1, scene.x::texts);
        }
        scene.draft("w/1");
        Check.illegalState("a text too many", scene.x::add);
        Check.answers("texts() behind it", 20, scene.x::texts);
        scene.type("v");
        Check.answers("the draft still has its word", 2, () -> scene.x.tag(2));
        Check.illegalState("a text too many, once more", scene.x::add);
        Check.answers("text(19, false)", true, () -> scene.x.text(19, false));
        Check.illegalState("a text that is taken out is still one", scene.x::add);
        Check.answers("firsts of tag 1", 5, () -> scene.x.step(-1, 1));
        Check.answers("firsts of tag 4", 4, () -> scene.x.step(-1, 4));
    }

    private static void addsRefused() {
        Scene scene = new Scene().type("w");
        Check.illegalState("add() with a word that is only typed", scene.x::add);
        scene.x.tag(0);
        Check.answers("add()", 0, scene.x::add);
        Check.illegalState("add() of the same draft again", scene.x::add);
        Check.answers("texts()", 1, scene.x::texts);
    }

    private static void textsInAndOut() {
        Trellistag x = new Scene().text("a/0").text("b/1").x;
        Check.answers("put in what counts", true, () -> x.text(0, true));
        Check.answers("texts()", 2, x::texts);
        Check.answers("firsts of tag 0", 2, () -> x.step(-1, 0));
        Check.answers("take out", true, () -> x.text(0, false));
        Check.answers("texts() with one out", 1, x::texts);
        Check.answers("take out again", false, () -> x.text(0, false));
        Check.answers("texts() still", 1, x::texts);
        Check.answers("firsts of tag 0, out", 1, () -> x.step(-1, 0));
        Check.answers("firsts of tag 1, in", 2, () -> x.step(-1, 1));
        Check.answers("take out the other", true, () -> x.text(1, false));
        Check.answers("texts() with both out", 0, x::texts);
        Check.answers("put in", false, () -> x.text(0, true));
        Check.answers("put in again", true, () -> x.text(0, true));
        Check.answers("texts() with one in", 1, x::texts);
        Check.answers("firsts of tag 0, in", 2, () -> x.step(-1, 0));
    }

    private static void textsRefused() {
        Trellistag x = new Scene().text("a/0").text("b/1").draft("c/2").x;
        for (int text : new int[] {-1, 2, 3, 20, 21, Integer.MIN_VALUE, Integer.MAX_VALUE}) {
            Check.outOfBounds("text(" + text + ", false)", () -> x.text(text, false));
            Check.outOfBounds("text(" + text + ", true)", () -> x.text(text, true));
        }
        Check.answers("texts()", 2, x::texts);
        Check.answers("the draft does not count", 1, () -> x.step(-1, 2));
    }

    private static void countsGrowAndShrink() {
        Scene scene = new Scene().text("ab/0 ab/1 ab/1").text("ab/1 cb/2").type("ab");
        Check.due("both count", scene.weights(), "5 9 1 1 1");
        scene.x.text(0, false);
        Check.due("only the second counts", scene.weights(), "1 5 1 1 1");
        Check.answers("step(1, 1), out", 1, () -> scene.x.step(1, 1));
        Check.answers("step(1, 2), in", 2, () -> scene.x.step(1, 2));
        scene.x.text(1, false);
        Check.due("none counts", scene.weights(), "1 1 1 1 1");
        scene.x.text(0, true);
        Check.due("only the first counts", scene.weights(), "5 9 1 1 1");
        Check.answers("step(1, 1), in", 2, () -> scene.x.step(1, 1));
        Check.answers("step(0, 1), in", 2, () -> scene.x.step(0, 1));
    }
}
