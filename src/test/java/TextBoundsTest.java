/** The edges that the document names in "Texts" and in promises 1 to 5 and 17, a test for each sentence. */
public final class TextBoundsTest {
    private static final int MIN = Integer.MIN_VALUE;
    private static final int MAX = Integer.MAX_VALUE;
    private static final int NONE = Trellistag.NONE;

    public static void main(String[] args) {
        noneIsMinusOne();
        beginsWithoutTexts();
        beginsWithAnEmptyDraft();
        beginsWithAnEmptySentence();
        beginsWithNothingTyped();
        sharesNothingWithOtherObjects();
        lettersAToZ();
        noOtherLetters();
        upToSixLetters();
        allSixLettersAreTheWord();
        oneLetterIsAWord();
        tagsZeroToFour();
        noOtherTags();
        tagOfNothing();
        nothingIsTypedBehindTag();
        upToSixWords();
        draftOfOneWord();
        draftOfSixWords();
        addOfAnEmptyDraft();
        draftIsEmptyBehindAdd();
        upToTwentyTexts();
        textsTakenOutAreTextsStill();
        draftWaitsBehindTwentyTexts();
        textNumbersOfNone();
        textNumbersOfOne();
        textNumbersOfTwenty();
        draftIsNoText();
        addedTextCounts();
        takenOutTwice();
        putInTwice();
        countsNoMoreAndAgain();
        noStepBetweenTexts();
        howManyTextsCount();
        lastOfAllCalls();
        Check.finish();
    }

    /** "The constants: NONE = -1". */
    private static void noneIsMinusOne() {
        Check.due("NONE", Trellistag.NONE, -1);
    }

    /** "Begins without texts". */
    private static void beginsWithoutTexts() {
        Scene scene = new Scene();
        Check.answers("texts() of a new object", 0, scene.x::texts);
        Check.outOfBounds("text(0, true) of a new object", () -> scene.x.text(0, true));
        for (int from = NONE; from < 5; from++) {
            Check.due("steps of a new object from " + from, scene.steps(from), "1 1 1 1 1");
        }
        Check.due("weights of a new object", scene.type("a").weights(), "1 1 1 1 1");
        Check.answers("the first text's number", 0, scene.draft("b/0").x::add);
    }

    /** "with an empty draft". */
    private static void beginsWithAnEmptyDraft() {
        Scene scene = new Scene();
        Check.illegalState("add() of a new object", scene.x::add);
        scene.type("a");
        Check.answers("the first word's tag()", 1, () -> scene.x.tag(0));
    }

    /** "and an empty sentence". */
    private static void beginsWithAnEmptySentence() {
        Scene scene = new Scene();
        Check.illegalState("cost() of a new object", scene.x::cost);
        Check.illegalState("product(0) of a new object", () -> scene.x.product(0));
        Check.outOfBounds("path(0, 0) of a new object", () -> scene.x.path(0, 0));
        Check.answers("clear() of a new object", 0, scene.x::clear);
        Check.answers("the first word()", 1, scene.type("a").x::word);
    }

    /** "nothing is typed", of a new object. */
    private static void beginsWithNothingTyped() {
        Trellistag x = new Trellistag();
        Check.illegalState("word() of a new object", x::word);
        Check.illegalState("tag(0) of a new object", () -> x.tag(0));
        Check.illegalState("weight(0) of a new object", () -> x.weight(0));
        Check.answers("the first letter", 1, () -> x.letter('a'));
    }

    private static void sharesNothingWithOtherObjects() {
        String alone = Picture.of(new Trellistag());
        Scene other = new Scene().text("a/1").sentence("b").draft("c/2").type("d");
        Check.due("a new object beside another one", Picture.of(new Trellistag()), alone);
        Check.answers("texts() of the other one", 1, other.x::texts);
        Check.answers("letter of the other one", 2, () -> other.x.letter('d'));
    }

    /** "a to z": all of them, and each is another one. */
    private static void lettersAToZ() {
        for (char letter = 'a'; letter <= 'z'; letter++) {
            char typed = letter;
            Scene scene = new Scene();
            Check.answers("letter " + letter, 1, () -> scene.x.letter(typed));
            scene.x.tag(3);
            scene.x.add();
            for (char asked = 'a'; asked <= 'z'; asked++) {
                String due = asked == letter ? "1 1 1 5 1" : "1 1 1 1 1";
                Check.due("weights of " + asked + " by " + letter, scene.type("" + asked).weights(), due);
                scene.x.word();
                scene.x.clear();
            }
        }
    }

    /** "if letter is none of these": all other characters, some calls an object. */
    private static void noOtherLetters() {
        Trellistag x = new Trellistag();
        for (int code = 0; code <= Character.MAX_VALUE; code++) {
            char letter = (char) code;
            if (letter < 'a' || letter > 'z') {
                Trellistag asked = x;
                Check.illegalArgument("letter " + code, () -> asked.letter(letter));
            }
            if (code % 400 == 399) {
                Check.due("typed behind refused letters", x.letter('a'), 1);
                x = new Trellistag();
            }
        }
    }

    /** "each of up to 6 letters", "if it has 6". */
    private static void upToSixLetters() {
        Trellistag x = new Trellistag();
        for (int i = 1; i <= 6; i++) {
            Check.answers("letter " + i, i, () -> x.letter('z'));
        }
        Check.illegalState("a seventh letter", () -> x.letter('z'));
        Check.illegalState("a seventh letter again", () -> x.letter('a'));
        Check.illegalArgument("a seventh letter that is none", () -> x.letter('Z'));
        Check.answers("word() of six letters", 1, x::word);
        Check.answers("the next word's first letter", 1, () -> x.letter('z'));
    }

    private static void allSixLettersAreTheWord() {
        Scene scene = new Scene().text("zzzzzz/0 abcdef/1").type("abcdef");
        Check.illegalState("a seventh letter", () -> scene.x.letter('g'));
        Check.due("six letters, and no seventh", scene.weights(), "1 5 1 1 1");
        scene.x.word();
        Check.due("six other letters", scene.type("zzzzzz").weights(), "5 1 1 1 1");
        scene.x.word();
        Check.due("another first letter", scene.type("bbcdef").weights(), "1 3 1 1 1");
        scene.x.word();
        Check.due("without the first letter", scene.type("bcdef").weights(), "1 3 1 1 1");
    }

    private static void oneLetterIsAWord() {
        Scene scene = new Scene().type("a");
        Check.answers("tag() of one letter", 1, () -> scene.x.tag(0));
        scene.type("a");
        Check.answers("word() of one letter", 1, scene.x::word);
    }

    /** "Tags are numbered 0 to 4": the first and the last one, and that they are different ones. */
    private static void tagsZeroToFour() {
        for (int tag = 0; tag < 5; tag++) {
            Scene scene = new Scene().type("w");
            int given = tag;
            Check.answers("tag(" + tag + ")", 1, () -> scene.x.tag(given));
            scene.x.add();
            for (int asked = 0; asked < 5; asked++) {
                int to = asked;
                Check.answers("first tag " + asked + " by " + tag, asked == tag ? 2 : 1, () -> scene.x.step(NONE, to));
            }
        }
    }

    /** "Tags are numbered 0 to 4": no others, NONE neither. */
    private static void noOtherTags() {
        Trellistag x = new Scene().type("w").x;
        for (int tag : new int[] {MIN, -2, NONE, 5, 6, MAX}) {
            Check.outOfBounds("tag(" + tag + ")", () -> x.tag(tag));
        }
        Check.illegalState("nothing went into the draft", x::add);
        Check.answers("the word is still typed", 2, () -> x.letter('w'));
    }

    /** "if nothing is typed": with an empty draft, with words in it, and with a full one. */
    private static void tagOfNothing() {
        Scene scene = new Scene();
        Check.illegalState("tag(0) of nothing, empty draft", () -> scene.x.tag(0));
        scene.draft("a/0 b/0 c/0 d/0 e/0");
        Check.illegalState("tag(0) of nothing", () -> scene.x.tag(0));
        Check.answers("the sixth word's tag()", 6, () -> scene.type("f").x.tag(0));
        Check.illegalState("tag(0) of nothing, full draft", () -> scene.x.tag(0));
    }

    /** "nothing is typed then", of tag. */
    private static void nothingIsTypedBehindTag() {
        Scene scene = new Scene().type("abcdef");
        scene.x.tag(0);
        Check.illegalState("tag(0) again", () -> scene.x.tag(0));
        Check.illegalState("word() of nothing", scene.x::word);
        Check.illegalState("weight(0) of nothing", () -> scene.x.weight(0));
        Check.answers("the next letter is the first", 1, () -> scene.x.letter('a'));
        scene.text("b/1");
        Check.due("nothing of the word ahead is left", scene.type("a").weights(), "1 1 1 1 1");
    }

    /** "A draft has up to 6 words", "or it has 6". */
    private static void upToSixWords() {
        Scene scene = new Scene();
        for (int i = 1; i <= 6; i++) {
            scene.type("w");
            int due = i;
            Check.answers("tag() of word " + i, due, () -> scene.x.tag(4));
        }
        scene.type("v");
        Check.illegalState("a seventh word", () -> scene.x.tag(3));
        Check.illegalState("a seventh word again", () -> scene.x.tag(4));
        scene.x.add();
        Check.answers("no step to the seventh", 1, () -> scene.x.step(4, 3));
        Check.due("the seventh is in no text", scene.weights(), "1 1 1 1 1");
        Check.answers("it goes into the next draft", 1, () -> scene.x.tag(3));
    }

    /** A draft of one word: "for each tag how often it is first", and no step. */
    private static void draftOfOneWord() {
        Scene scene = new Scene().draft("a/3");
        Check.answers("add() of one word", 0, scene.x::add);
        Check.due("it is first", scene.steps(NONE), "1 1 1 2 1");
        for (int from = 0; from < 5; from++) {
            Check.due("it makes no step from " + from, scene.steps(from), "1 1 1 1 1");
        }
    }

    /** A full draft: the first of six words is first, and each other one comes "right behind" one. */
    private static void draftOfSixWords() {
        Scene scene = new Scene().draft("a/0 b/1 c/2 d/3 e/4 f/0");
        Check.answers("add() of six words", 0, scene.x::add);
        Check.due("only the first is first", scene.steps(NONE), "2 1 1 1 1");
        Check.due("steps from 0", scene.steps(0), "1 2 1 1 1");
        Check.due("steps from 1", scene.steps(1), "1 1 2 1 1");
        Check.due("steps from 2", scene.steps(2), "1 1 1 2 1");
        Check.due("steps from 3", scene.steps(3), "1 1 1 1 2");
        Check.due("steps from 4", scene.steps(4), "2 1 1 1 1");
        Check.due("the first word", scene.type("a").weights(), "5 1 1 1 1");
        scene.x.word();
        Check.due("the last word", scene.type("f").weights(), "5 1 1 1 1");
    }

    /** "if the draft is empty". */
    private static void addOfAnEmptyDraft() {
        Scene scene = new Scene();
        Check.illegalState("add() without a draft", scene.x::add);
        scene.type("w");
        Check.illegalState("add() with a word that is only typed", scene.x::add);
        Check.answers("texts()", 0, scene.x::texts);
        scene.x.word();
        Check.illegalState("add() with a word of the sentence", scene.x::add);
        scene.draft("w/0");
        Check.answers("add() of one word", 0, scene.x::add);
    }

    /** "it is empty then". */
    private static void draftIsEmptyBehindAdd() {
        Scene scene = new Scene().text("a/0 b/1 c/2 d/3 e/4 f/0");
        Check.illegalState("add() again", scene.x::add);
        Check.answers("texts()", 1, scene.x::texts);
        for (int i = 1; i <= 6; i++) {
            scene.type("g");
            int due = i;
            Check.answers("the next draft's word " + i, due, () -> scene.x.tag(1));
        }
        Check.answers("its number", 1, scene.x::add);
        Check.answers("first in one text each", 2, () -> scene.x.step(NONE, 1));
        Check.answers("no step from the text ahead", 1, () -> scene.x.step(0, 0));
    }

    /** "at most 20", "or there are 20". */
    private static void upToTwentyTexts() {
        Scene scene = new Scene();
        for (int i = 0; i < 20; i++) {
            scene.draft("w/" + i % 5);
            Check.answers("add() " + i, i, scene.x::add);
        }
        scene.draft("v/1");
        Check.illegalState("a text too many", scene.x::add);
        Check.illegalState("a text too many again", scene.x::add);
        Check.answers("texts()", 20, scene.x::texts);
        Check.due("its first tag does not count", scene.steps(NONE), "5 5 5 5 5");
        Check.due("its word does not count", scene.type("v").weights(), "1 1 1 1 1");
        Check.outOfBounds("it has no number", () -> scene.x.text(20, true));
    }

    /** "there are 20": also where not all of them count, or none. */
    private static void textsTakenOutAreTextsStill() {
        Scene scene = new Scene();
        for (int i = 0; i < 20; i++) {
            scene.text("w/0");
            scene.x.text(i, false);
        }
        scene.draft("w/0");
        Check.answers("none counts", 0, scene.x::texts);
        Check.illegalState("but there are 20", scene.x::add);
        Check.answers("the last one can be put in", false, () -> scene.x.text(19, true));
        Check.answers("one counts", 1, scene.x::texts);
    }

    /** Behind the last text there is a draft still: it is filled, but not added. */
    private static void draftWaitsBehindTwentyTexts() {
        Scene scene = new Scene();
        for (int i = 0; i < 20; i++) {
            scene.text("w/0");
        }
        Check.illegalState("add() of an empty draft as a text too many", scene.x::add);
        for (int i = 1; i <= 6; i++) {
            scene.type("v");
            int due = i;
            Check.answers("its draft's word " + i, due, () -> scene.x.tag(1));
            Check.illegalState("a text too many of words: " + i, scene.x::add);
        }
        scene.type("v");
        Check.illegalState("a word too many", () -> scene.x.tag(1));
        Check.answers("steps of it do not count", 1, () -> scene.x.step(1, 1));
    }

    private static void noSuchTexts(Trellistag x, int... texts) {
        int before = x.texts();
        for (int text : texts) {
            Check.outOfBounds("text(" + text + ", false)", () -> x.text(text, false));
            Check.outOfBounds("text(" + text + ", true)", () -> x.text(text, true));
        }
        Check.answers("texts()", before, x::texts);
    }

    /** "there is no such text": without any. */
    private static void textNumbersOfNone() {
        noSuchTexts(new Trellistag(), MIN, -1, 0, 1, 19, 20, MAX);
    }

    /** "Texts are numbered from 0": of one text, only that. */
    private static void textNumbersOfOne() {
        Trellistag x = new Scene().text("a/0").x;
        noSuchTexts(x, MIN, -1, 1, 2, 19, 20, MAX);
        Check.answers("text(0, false)", true, () -> x.text(0, false));
        noSuchTexts(x, -1, 1);
        Check.answers("text(0, true)", false, () -> x.text(0, true));
    }

    /** "Texts are numbered from 0": of all twenty, the last is 19. */
    private static void textNumbersOfTwenty() {
        Scene scene = new Scene();
        for (int i = 0; i < 20; i++) {
            scene.text("w/" + i % 5);
        }
        noSuchTexts(scene.x, MIN, -1, 20, 21, MAX);
        for (int i = 0; i < 20; i++) {
            int text = i;
            Check.answers("text(" + i + ", false)", true, () -> scene.x.text(text, false));
            Check.answers("texts()", 19 - i, scene.x::texts);
        }
        Check.due("none counts", scene.steps(NONE), "1 1 1 1 1");
        for (int i = 19; i >= 0; i--) {
            int text = i;
            Check.answers("text(" + i + ", true)", false, () -> scene.x.text(text, true));
        }
        Check.due("all count", scene.steps(NONE), "5 5 5 5 5");
    }

    private static void draftIsNoText() {
        Scene scene = new Scene().text("a/0").draft("b/1");
        Check.outOfBounds("text(1, true) of a draft", () -> scene.x.text(1, true));
        Check.due("its first tag does not count", scene.steps(NONE), "2 1 1 1 1");
        Check.due("its word does not count", scene.type("b").weights(), "1 1 1 1 1");
    }

    /** "to add the draft makes it a text that counts". */
    private static void addedTextCounts() {
        Trellistag x = new Scene().text("a/0").x;
        Check.answers("texts()", 1, x::texts);
        Check.answers("text(0, true): whether it counted", true, () -> x.text(0, true));
    }

    /** "to take a text out lets it count no more": no less, either, when it is taken out again. */
    private static void takenOutTwice() {
        Scene scene = new Scene().text("a/0 a/0").text("a/0");
        Check.answers("taken out", true, () -> scene.x.text(0, false));
        Check.answers("taken out again", false, () -> scene.x.text(0, false));
        Check.answers("and again", false, () -> scene.x.text(0, false));
        Check.answers("texts()", 1, scene.x::texts);
        Check.answers("firsts of tag 0", 2, () -> scene.x.step(NONE, 0));
        Check.answers("steps from 0 to 0", 1, () -> scene.x.step(0, 0));
        Check.answers("put in", false, () -> scene.x.text(0, true));
        Check.answers("texts() again", 2, scene.x::texts);
        Check.answers("firsts of tag 0 again", 3, () -> scene.x.step(NONE, 0));
        Check.answers("steps from 0 to 0 again", 2, () -> scene.x.step(0, 0));
    }

    /** "to put it in lets it count again": once, also when it is put in again. */
    private static void putInTwice() {
        Scene scene = new Scene().text("a/0 a/0").text("b/1");
        Check.answers("put in what counts", true, () -> scene.x.text(0, true));
        Check.answers("and again", true, () -> scene.x.text(0, true));
        Check.answers("texts()", 2, scene.x::texts);
        Check.answers("firsts of tag 0", 2, () -> scene.x.step(NONE, 0));
        Check.answers("steps from 0 to 0", 2, () -> scene.x.step(0, 0));
        Check.due("its word", scene.type("a").weights(), "9 1 1 1 1");
        Check.answers("taken out once", true, () -> scene.x.text(0, false));
        Check.answers("texts() then", 1, scene.x::texts);
        Check.answers("firsts of tag 0 then", 1, () -> scene.x.step(NONE, 0));
        Check.due("its word then", scene.weights(), "1 1 1 1 1");
    }

    /** "What counts: .. in texts that count": words, steps and firsts go and come with the last text of all. */
    private static void countsNoMoreAndAgain() {
        Scene scene = new Scene().text("ab/4 cd/2").type("ab");
        for (int round = 0; round < 3; round++) {
            Check.due("in: the word", scene.weights(), "1 1 1 1 5");
            Check.due("in: the step", scene.steps(4), "1 1 2 1 1");
            Check.due("in: the first", scene.steps(NONE), "1 1 1 1 2");
            Check.answers("in: text(0, false)", true, () -> scene.x.text(0, false));
            Check.due("out: the word", scene.weights(), "1 1 1 1 1");
            Check.due("out: the step", scene.steps(4), "1 1 1 1 1");
            Check.due("out: the first", scene.steps(NONE), "1 1 1 1 1");
            Check.answers("out: text(0, true)", false, () -> scene.x.text(0, true));
        }
    }

    /** "the second one comes right behind the first one": not from text to text, and not two places on. */
    private static void noStepBetweenTexts() {
        Scene scene = new Scene().text("a/0 b/1 c/2").text("d/3").text("e/4 f/0");
        Check.due("from 0", scene.steps(0), "1 2 1 1 1");
        Check.due("from 1", scene.steps(1), "1 1 2 1 1");
        Check.due("from 2", scene.steps(2), "1 1 1 1 1");
        Check.due("from 3", scene.steps(3), "1 1 1 1 1");
        Check.due("from 4", scene.steps(4), "2 1 1 1 1");
    }

    /** "Returns how many texts count": none, some, all twenty. */
    private static void howManyTextsCount() {
        Scene scene = new Scene();
        Check.answers("none", 0, scene.x::texts);
        scene.draft("w/0");
        Check.answers("a draft is none", 0, scene.x::texts);
        scene.x.add();
        for (int i = 1; i < 20; i++) {
            Check.answers("texts of " + i, i, scene.x::texts);
            scene.text("w/0");
        }
        Check.answers("all twenty", 20, scene.x::texts);
        scene.x.text(7, false);
        Check.answers("all but one", 19, scene.x::texts);
        scene.x.clear();
        Check.answers("clear() leaves the texts", 19, scene.x::texts);
    }

    /** "An object is used for at most 512 calls": the last one answers still, behind refused calls, too. */
    private static void lastOfAllCalls() {
        Scene scene = new Scene();
        int calls = 0;
        for (int i = 0; i < 20; i++) {
            scene.text("a/0 a/0 a/0 a/0 a/0 a/0");
            calls += 13;
        }
        scene.sentence("a a a a a");
        calls += 10;
        for (; calls < 510; calls++) {
            Check.illegalState("call " + calls, scene.x::word);
        }
        Check.answers("call 511", 990, () -> scene.x.shareAnew(0, 0));
        Check.answers("call 512", 0, () -> scene.x.pathAnew(0, 4));
    }
}
