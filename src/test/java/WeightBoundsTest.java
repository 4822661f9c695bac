/** The edges that the document names in "Weights" for words and steps, and in promises 9 and 10. */
public final class WeightBoundsTest {
    private static final int MIN = Integer.MIN_VALUE;
    private static final int MAX = Integer.MAX_VALUE;
    private static final int NONE = Trellistag.NONE;
    private static final String ONES = "1 1 1 1 1";

    public static void main(String[] args) {
        knownWordsAtMostNine();
        knownWordsByEachPlace();
        knownWordsOfTheLastText();
        endingsAtMostNine();
        endingsOfThreeLetters();
        endingsOfTwoLetters();
        endingsOfOneLetter();
        noEnding();
        noEndingWithoutTexts();
        longestEndingAlone();
        longestEndingOfTextsThatCount();
        wordOfTheTextIsAnEnding();
        typedWordIsAnEnding();
        sixLettersButTheFirst();
        oneLetterAgainAndAgain();
        wordItselfAheadOfEndings();
        tagsOfWeight();
        weightOfNothing();
        weightTypesNothing();
        stepsAtMostSeven();
        firstsAtMostSeven();
        countedAboveTheMost();
        stepsFrom();
        stepsTo();
        Check.finish();
    }

    private static Scene sameText(int times, String taggedWords) {
        Scene scene = new Scene();
        for (int i = 0; i < times; i++) {
            scene.text(taggedWords);
        }
        return scene;
    }

    /** "4 times how often it has that tag, and 1, but at most 9": 1, 5, 9 and no 13. */
    private static void knownWordsAtMostNine() {
        int[] due = {1, 5, 9, 9, 9};
        for (int often = 1; often <= 4; often++) {
            Check.due("with the tag " + often + " times", sameText(often, "ab/2").type("ab").weights(),
                "1 1 " + due[often] + " 1 1");
        }
        Scene most = sameText(20, "ab/2 ab/2 ab/2 ab/2 ab/2 ab/3").type("ab");
        Check.due("with the tag 100 times, with another one 20 times", most.weights(), "1 1 9 9 1");
    }

    /** "how often that word has that tag": each place of it counts, in one text as in several. */
    private static void knownWordsByEachPlace() {
        Check.due("twice in one text", new Scene().text("ab/2 ab/2").type("ab").weights(), "1 1 9 1 1");
        Check.due("with two tags", new Scene().text("ab/2 ab/0").type("ab").weights(), "5 1 5 1 1");
        Check.due("first and last of six", new Scene().text("ab/1 c/0 c/0 c/0 c/0 ab/1").type("ab").weights(),
            "1 9 1 1 1");
        Check.due("in the first and the last text", sameText(1, "ab/4").text("c/0").text("ab/4").type("ab").weights(),
            "1 1 1 1 9");
    }

    /** "a word that is in a text that counts": as long as the last of its texts does. */
    private static void knownWordsOfTheLastText() {
        Scene scene = new Scene().text("ab/0").text("ab/1").text("cb/2").type("ab");
        Check.due("in two texts", scene.weights(), "5 5 1 1 1");
        scene.x.text(0, false);
        Check.due("in one text", scene.weights(), "1 5 1 1 1");
        scene.x.text(1, false);
        Check.due("in none: by its ending", scene.weights(), "1 1 3 1 1");
        scene.x.text(2, false);
        Check.due("by no ending", scene.weights(), ONES);
    }

    /** "2 times how often words with that ending have that tag, and 1, but at most 9": 1, 3, 5, 7, 9 and no 11. */
    private static void endingsAtMostNine() {
        int[] due = {1, 3, 5, 7, 9, 9, 9};
        for (int often = 1; often <= 6; often++) {
            Check.due("with the tag " + often + " times", sameText(often, "ab/2").type("cb").weights(),
                "1 1 " + due[often] + " 1 1");
        }
        Scene most = sameText(20, "ab/2 bb/2 cb/2 db/2 eb/2 fb/3").type("gb");
        Check.due("with the tag 100 times, with another one 20 times", most.weights(), "1 1 9 9 1");
    }

    /** "the longest of their endings, of 1 to 3 letters": four letters and more are not ahead of three. */
    private static void endingsOfThreeLetters() {
        Scene scene = new Scene().text("abcdef/0 zbcdef/1 cdef/2 def/3 zzzdef/4").type("yabcdf");
        Check.due("not by three letters", scene.weights(), "3 3 3 3 3");
        scene.x.word();
        Check.due("three letters or more are alike", scene.type("xbcdef").weights(), "3 3 3 3 3");
        scene.x.word();
        scene.text("ef/0 ef/0 f/0 eef/0");
        Check.due("two letters or one do not count with them", scene.type("xbcdef").weights(), "3 3 3 3 3");
    }

    /** "the longest of their endings": of two letters, where none of three is there. */
    private static void endingsOfTwoLetters() {
        Scene scene = new Scene().text("abc/0 dbc/1 bc/2 c/3 cc/4").type("ebc");
        Check.due("two letters or more are alike", scene.weights(), "3 3 3 1 1");
        scene.x.word();
        Check.due("without the letter ahead", scene.type("babcbc").weights(), "3 3 3 1 1");
    }

    /** "of 1 to 3 letters": of one letter, where none of two is there. */
    private static void endingsOfOneLetter() {
        Scene scene = new Scene().text("abc/0 xc/1 c/2 ca/3 d/4").type("zzzzc");
        Check.due("one letter or more are alike", scene.weights(), "3 3 3 1 1");
        scene.x.word();
        Check.due("a word of two letters", scene.type("zc").weights(), "3 3 3 1 1");
    }

    /** "Without such an ending it is 1 for each tag": letters ahead of other last ones are no ending. */
    private static void noEnding() {
        Scene scene = new Scene().text("abcdef/0 abc/1 a/2 bcd/3").type("abcdeg");
        Check.due("the last letter is another", scene.weights(), ONES);
        scene.x.word();
        Check.due("the first letters alone", scene.type("ab").weights(), ONES);
        scene.x.word();
        Check.due("letters between", scene.type("bcde").weights(), ONES);
        scene.x.word();
        Check.due("backward", scene.type("fedcb").weights(), ONES);
    }

    /** "Without such an ending it is 1 for each tag": without texts, with a draft alone, with no text that counts. */
    private static void noEndingWithoutTexts() {
        Scene scene = new Scene().type("ab");
        Check.due("no text", scene.weights(), ONES);
        scene.x.tag(0);
        Check.due("a draft alone", scene.type("ab").weights(), ONES);
        scene.x.add();
        scene.x.text(0, false);
        Check.due("a text that does not count", scene.weights(), ONES);
        scene.x.text(0, true);
        Check.due("a text that counts", scene.weights(), "5 1 1 1 1");
    }

    /** "the longest of their endings": shorter ones do not count with it, before it and behind it. */
    private static void longestEndingAlone() {
        Scene rising = new Scene().text("d/0 cd/1 bcd/2").type("abcd");
        Check.due("the longest is the last of a text", rising.weights(), "1 1 3 1 1");
        Scene falling = new Scene().text("bcd/2 cd/1 d/0").type("abcd");
        Check.due("the longest is the first of a text", falling.weights(), "1 1 3 1 1");
        Scene texts = new Scene().text("cd/1").text("bcd/2").text("d/0").text("xbcd/2").text("xcd/1").type("abcd");
        Check.due("the longest is in some of the texts", texts.weights(), "1 1 5 1 1");
    }

    /** "with which some word in a text that counts ends". */
    private static void longestEndingOfTextsThatCount() {
        Scene scene = new Scene().text("xbcd/0").text("xcd/1").text("xd/2").type("abcd");
        Check.due("three letters", scene.weights(), "3 1 1 1 1");
        scene.x.text(0, false);
        Check.due("two letters", scene.weights(), "1 3 1 1 1");
        scene.x.text(1, false);
        Check.due("one letter", scene.weights(), "1 1 3 1 1");
        scene.x.text(2, false);
        Check.due("none", scene.weights(), ONES);
        scene.x.text(0, true);
        Check.due("three letters again", scene.weights(), "3 1 1 1 1");
    }

    /** "an ending may be a whole word": of a text, with one, two and three letters. */
    private static void wordOfTheTextIsAnEnding() {
        Check.due("one letter", new Scene().text("c/0").type("abc").weights(), "3 1 1 1 1");
        Check.due("two letters", new Scene().text("bc/1 xc/0").type("abc").weights(), "1 3 1 1 1");
        Check.due("three letters", new Scene().text("abc/2 xbc/1").type("zabc").weights(), "1 1 3 1 1");
    }

    /** "an ending may be a whole word": the one that is typed, with one, two and three letters. */
    private static void typedWordIsAnEnding() {
        Scene scene = new Scene().text("wabc/0 xxbc/1 xxxc/2");
        Check.due("one letter", scene.type("c").weights(), "3 3 3 1 1");
        scene.x.word();
        Check.due("two letters", scene.type("bc").weights(), "3 3 1 1 1");
        scene.x.word();
        Check.due("three letters", scene.type("abc").weights(), "3 1 1 1 1");
    }

    /** The longest words that are not the same, by their first letter alone: only endings count. */
    private static void sixLettersButTheFirst() {
        for (char first = 'a'; first <= 'z'; first++) {
            Scene scene = new Scene().text(first + "bcdef/0");
            for (char other = 'a'; other <= 'z'; other++) {
                String due = other == first ? "5 1 1 1 1" : "3 1 1 1 1";
                Check.due(other + "bcdef by " + first + "bcdef", scene.type(other + "bcdef").weights(), due);
                scene.x.word();
                scene.x.clear();
            }
        }
    }

    /** Words of one letter again and again are others with each letter more; from three on their ending is the same. */
    private static void oneLetterAgainAndAgain() {
        String[] words = {"a", "aa", "aaa", "aaaa", "aaaaa", "aaaaaa"};
        for (String known : words) {
            Scene scene = new Scene().text(known + "/1");
            for (String asked : words) {
                Check.due(asked + " by " + known, scene.type(asked).weights(),
                    asked.equals(known) ? "1 5 1 1 1" : "1 3 1 1 1");
                scene.x.word();
                scene.x.clear();
            }
        }
        Scene all = new Scene().text("a/0 aa/1 aaa/2").text("aaaa/3");
        Check.due("the longest ending of five", all.type("aaaaa").weights(), "1 1 3 3 1");
        all.x.word();
        Check.due("the longest ending of another word", all.type("baa").weights(), "1 3 3 3 1");
    }

    /** "Other words go by the longest of their endings": those of texts go by themselves alone, for each tag. */
    private static void wordItselfAheadOfEndings() {
        Scene scene = new Scene().text("zab/0 yab/1 ab/2 xab/2 b/3").type("ab");
        Check.due("itself alone", scene.weights(), "1 1 5 1 1");
        scene.x.word();
        Check.due("a longer word by its ending", scene.type("cab").weights(), "3 3 5 1 1");
    }

    private static void tagsOfWeight() {
        Scene scene = new Scene().text("a/0 a/4").type("a");
        Check.answers("weight(0)", 5, () -> scene.x.weight(0));
        Check.answers("weight(4)", 5, () -> scene.x.weight(4));
        for (int tag : new int[] {MIN, -2, NONE, 5, 6, MAX}) {
            Check.outOfBounds("weight(" + tag + ")", () -> scene.x.weight(tag));
        }
    }

    /** "if nothing is typed". */
    private static void weightOfNothing() {
        Scene scene = new Scene().text("a/0").sentence("a");
        for (int tag = 0; tag < 5; tag++) {
            int to = tag;
            Check.illegalState("weight(" + tag + ") of nothing", () -> scene.x.weight(to));
        }
        for (int tag : new int[] {MIN, NONE, 5, MAX}) {
            Check.outOfBounds("weight(" + tag + ") of nothing", () -> scene.x.weight(tag));
        }
    }

    private static void weightTypesNothing() {
        Scene scene = new Scene().text("abc/0 ab/1").type("ab");
        Check.due("two letters", scene.weights(), "1 5 1 1 1");
        Check.answers("the next letter is the third", 3, () -> scene.x.letter('c'));
        Check.due("three letters", scene.weights(), "5 1 1 1 1");
    }

    /** "how often that is so, and 1, but at most 7": 6 behind one full text, 7 behind one step more, and no 8. */
    private static void stepsAtMostSeven() {
        Scene scene = new Scene();
        for (int often = 1; often <= 5; often++) {
            scene.text("a/3 a/2");
            Check.due(often + " steps", scene.steps(3), "1 1 " + (often + 1) + " 1 1");
        }
        Check.due("six steps", scene.text("a/3 a/2").steps(3), "1 1 7 1 1");
        Check.due("seven steps", scene.text("a/3 a/2").steps(3), "1 1 7 1 1");
        Check.due("five steps of one text", new Scene().text("a/1 a/1 a/1 a/1 a/1 a/1").steps(1), "1 6 1 1 1");
        Check.due("all steps that there can be", sameText(20, "a/1 a/1 a/1 a/1 a/1 a/1").steps(1), "1 7 1 1 1");
    }

    /** "of a tag as the first one how often it is, and 1, but at most 7". */
    private static void firstsAtMostSeven() {
        Scene scene = new Scene();
        for (int often = 1; often <= 5; often++) {
            scene.text("a/4 a/0");
            Check.due("first in " + often, scene.steps(NONE), "1 1 1 1 " + (often + 1));
        }
        Check.due("first in six", scene.text("a/4").steps(NONE), "1 1 1 1 7");
        Check.due("first in seven", scene.text("a/4").steps(NONE), "1 1 1 1 7");
        Check.due("first in all texts that there can be", sameText(20, "a/0").steps(NONE), "7 1 1 1 1");
    }

    /** "at most" binds the weights, not what counts: behind texts that are taken out they are less only at last. */
    private static void countedAboveTheMost() {
        Scene scene = sameText(8, "a/0 a/0").type("a");
        String[] steps = {"7", "7", "6", "5", "4", "3", "2", "1"};
        String[] words = {"9", "9", "9", "9", "9", "9", "9", "1"};
        for (int out = 0; out < 8; out++) {
            scene.x.text(out, false);
            Check.due("firsts with " + (out + 1) + " out", scene.steps(NONE), rest(steps[out]));
            Check.due("steps with " + (out + 1) + " out", scene.steps(0), rest(steps[out]));
            Check.due("the word with " + (out + 1) + " out", scene.weights(), rest(words[out]));
        }
    }

    private static String rest(String first) {
        return first + " 1 1 1 1";
    }

    /** "0 to 4, or NONE: the weight of to as the first one". */
    private static void stepsFrom() {
        Trellistag x = new Scene().text("a/0 b/4 c/4").x;
        Check.answers("step(NONE, 0)", 2, () -> x.step(NONE, 0));
        Check.answers("step(0, 4)", 2, () -> x.step(0, 4));
        Check.answers("step(4, 4)", 2, () -> x.step(4, 4));
        Check.answers("step(NONE, 4)", 1, () -> x.step(NONE, 4));
        for (int from : new int[] {MIN, -2, 5, 6, MAX}) {
            for (int tag = 0; tag < 5; tag++) {
                int to = tag;
                Check.outOfBounds("step(" + from + ", " + tag + ")", () -> x.step(from, to));
            }
        }
    }

    /** "as told": there is no step to NONE or to what is no tag. */
    private static void stepsTo() {
        Trellistag x = new Trellistag();
        for (int to : new int[] {MIN, -2, NONE, 5, 6, MAX}) {
            for (int tag = NONE; tag < 5; tag++) {
                int from = tag;
                Check.outOfBounds("step(" + tag + ", " + to + ")", () -> x.step(from, to));
            }
        }
    }
}
