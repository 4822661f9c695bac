/** An object under test, and short ways to say what is typed into it. */
final class Scene {
    final Trellistag x = new Trellistag();

    Scene type(String word) {
        for (char letter : word.toCharArray()) {
            x.letter(letter);
        }
        return this;
    }

    /** Puts words with their tags behind the draft: "cats/0 run/1". */
    Scene draft(String taggedWords) {
        for (String taggedWord : taggedWords.split(" ")) {
            String[] parts = taggedWord.split("/");
            type(parts[0]);
            x.tag(Integer.parseInt(parts[1]));
        }
        return this;
    }

    Scene text(String taggedWords) {
        draft(taggedWords);
        x.add();
        return this;
    }

    Scene sentence(String words) {
        for (String word : words.split(" ")) {
            type(word);
            x.word();
        }
        return this;
    }

    /** Locks the first places to these tags, one for each: "0 4". */
    Scene locks(String tags) {
        int place = 0;
        for (String tag : tags.split(" ")) {
            x.lock(place, Integer.parseInt(tag));
            place++;
        }
        return this;
    }

    private interface Cell {
        long at(int number);
    }

    private static String row(int cells, Cell cell) {
        StringBuilder row = new StringBuilder();
        for (int i = 0; i < cells; i++) {
            row.append(i == 0 ? "" : " ").append(cell.at(i));
        }
        return row.toString();
    }

    /** The weights of the tags for the word that is typed. */
    String weights() {
        return row(5, tag -> x.weight(tag));
    }

    /** The weights of the steps from a tag, or from NONE, to each tag. */
    String steps(int from) {
        return row(5, tag -> x.step(from, tag));
    }

    String path(int rank, int places) {
        return row(places, place -> x.path(rank, place));
    }

    String pathAnew(int rank, int places) {
        return row(places, place -> x.pathAnew(rank, place));
    }

    String shares(int place) {
        return row(5, tag -> x.share(place, tag));
    }

    String sharesAnew(int place) {
        return row(5, tag -> x.shareAnew(place, tag));
    }
}
