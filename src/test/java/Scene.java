/** An object under test, and short ways to say what is typed into it. */
final class Scene {
    final Trellistag x = new Trellistag();

    Scene type(String word) {
        for (char letter : word.toCharArray()) {
            x.letter(letter);
        }
        return this;
    }

    /** Puts words with their tags behind the draft: "cats/0 run/1". */
    Scene draft(String taggedWords) {
        for (String taggedWord : taggedWords.split(" ")) {
            String[] parts = taggedWord.split("/");
            type(parts[0]);
            x.tag(Integer.parseInt(parts[1]));
        }
        return this;
    }

    Scene text(String taggedWords) {
        draft(taggedWords);
        x.add();
        return this;
    }

    Scene sentence(String words) {
        for (String word : words.split(" ")) {
            type(word);
            x.word();
        }
        return this;
    }

    /** The weights of the tags for the word that is typed. */
    String weights() {
        StringBuilder row = new StringBuilder();
        for (int tag = 0; tag < 5; tag++) {
            row.append(tag == 0 ? "" : " ").append(x.weight(tag));
        }
        return row.toString();
    }

    String path(int rank, int places) {
        StringBuilder row = new StringBuilder();
        for (int place = 0; place < places; place++) {
            row.append(place == 0 ? "" : " ").append(x.path(rank, place));
        }
        return row.toString();
    }

    String pathAnew(int rank, int places) {
        StringBuilder row = new StringBuilder();
        for (int place = 0; place < places; place++) {
            row.append(place == 0 ? "" : " ").append(x.pathAnew(rank, place));
        }
        return row.toString();
    }

    String shares(int place) {
        StringBuilder row = new StringBuilder();
        for (int tag = 0; tag < 5; tag++) {
            row.append(tag == 0 ? "" : " ").append(x.share(place, tag));
        }
        return row.toString();
    }

    String sharesAnew(int place) {
        StringBuilder row = new StringBuilder();
        for (int tag = 0; tag < 5; tag++) {
            row.append(tag == 0 ? "" : " ").append(x.shareAnew(place, tag));
        }
        return row.toString();
    }
}
