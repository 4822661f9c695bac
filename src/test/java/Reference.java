import java.math.BigInteger;
import java.util.ArrayList;
import java.util.Comparator;
import java.util.List;

/**
 * The document once more, in the plainest words of the Java library: nothing is counted ahead, every question goes
 * over all texts and all paths. It shares no code and no way of holding words with the class under test.
 */
final class Reference {
    private record Tagged(String word, int tag) {
    }

    private record Path(List<Integer> tags, BigInteger weight) {
    }

    private static final class Text {
        final List<Tagged> words = new ArrayList<>();
        boolean counts = true;
    }

    private String typed = "";
    private Text draft = new Text();
    private final List<Text> texts = new ArrayList<>();
    private final List<String> sentence = new ArrayList<>();
    private final List<Integer> locks = new ArrayList<>();
    private List<Path> ranked = null;

    int letter(char letter) {
        if ("abcdefghijklmnopqrstuvwxyz".indexOf(letter) < 0) {
            throw new IllegalArgumentException();
        }
        state(typed.length() < 6);
        typed = typed + letter;
        return typed.length();
    }

    int tag(int tag) {
        bounds(tag, 0, 5);
        state(!typed.isEmpty() && draft.words.size() < 6);
        draft.words.add(new Tagged(typed, tag));
        typed = "";
        return draft.words.size();
    }

    int add() {
        state(!draft.words.isEmpty() && texts.size() < 20);
        texts.add(draft);
        draft = new Text();
        ranked = null;
        return texts.size() - 1;
    }

    boolean text(int text, boolean counts) {
        bounds(text, 0, texts.size());
        boolean counted = texts.get(text).counts;
        texts.get(text).counts = counts;
        ranked = null;
        return counted;
    }

    int word() {
        state(!typed.isEmpty() && sentence.size() < 5);
        sentence.add(typed);
        locks.add(-1);
        typed = "";
        ranked = null;
        return sentence.size();
    }

    int clear() {
        int had = sentence.size();
        sentence.clear();
        locks.clear();
        ranked = null;
        return had;
    }

    int lock(int place, int tag) {
        bounds(place, 0, sentence.size());
        bounds(tag, -1, 5);
        ranked = null;
        return locks.set(place, tag);
    }

    int weight(int tag) {
        bounds(tag, 0, 5);
        state(!typed.isEmpty());
        return weightOf(typed, tag);
    }

    int step(int from, int to) {
        bounds(from, -1, 5);
        bounds(to, 0, 5);
        return stepOf(from, to);
    }

    int path(int rank, int place) {
        bounds(place, 0, sentence.size());
        bounds(rank, 0, 10);
        return rank < ranked().size() ? ranked().get(rank).tags().get(place) : -1;
    }

    long product(int rank) {
        bounds(rank, 0, 10);
        state(!sentence.isEmpty());
        return rank < ranked().size() ? ranked().get(rank).weight().longValueExact() : 0;
    }

    int cost() {
        state(!sentence.isEmpty());
        BigInteger weight = ranked().get(0).weight();
        int times = 0;
        while (weight.compareTo(BigInteger.valueOf(1152921504606846975L)) <= 0) {
            weight = weight.shiftLeft(1);
            times++;
        }
        return times;
    }

    int share(int place, int tag) {
        bounds(place, 0, sentence.size());
        bounds(tag, 0, 5);
        BigInteger part = BigInteger.ZERO;
        BigInteger whole = BigInteger.ZERO;
        for (Path path : ranked()) {
            whole = whole.add(path.weight());
            part = path.tags().get(place) == tag ? part.add(path.weight()) : part;
        }
        return part.multiply(BigInteger.valueOf(1000)).divide(whole).intValueExact();
    }

    int texts() {
        int counting = 0;
        for (Text text : texts) {
            counting += text.counts ? 1 : 0;
        }
        return counting;
    }

    private static void state(boolean fits) {
        if (!fits) {
            throw new IllegalStateException();
        }
    }

    private static void bounds(int number, int first, int end) {
        if (number < first || number >= end) {
            throw new IndexOutOfBoundsException();
        }
    }

    private List<Tagged> counted() {
        List<Tagged> counted = new ArrayList<>();
        for (Text text : texts) {
            if (text.counts) {
                counted.addAll(text.words);
            }
        }
        return counted;
    }

    private int weightOf(String word, int tag) {
        boolean known = false;
        int often = 0;
        for (Tagged other : counted()) {
            known |= other.word().equals(word);
            often += other.word().equals(word) && other.tag() == tag ? 1 : 0;
        }
        return known ? Math.min(9, 4 * often + 1) : weightByEnding(word, tag);
    }

    private int weightByEnding(String word, int tag) {
        for (int letters = Math.min(3, word.length()); letters >= 1; letters--) {
            String ending = word.substring(word.length() - letters);
            boolean found = false;
            int often = 0;
            for (Tagged other : counted()) {
                found |= other.word().endsWith(ending);
                often += other.word().endsWith(ending) && other.tag() == tag ? 1 : 0;
            }
            if (found) {
                return Math.min(9, 2 * often + 1);
            }
        }
        return 1;
    }

    private int stepOf(int from, int to) {
        int often = 0;
        for (Text text : texts) {
            int before = -1;
            for (Tagged word : text.words) {
                often += text.counts && before == from && word.tag() == to ? 1 : 0;
                before = word.tag();
            }
        }
        return Math.min(7, often + 1);
    }

    private List<Path> ranked() {
        if (ranked == null) {
            ranked = new ArrayList<>();
            ranked.add(new Path(List.of(), BigInteger.ONE));
            for (int place = 0; place < sentence.size(); place++) {
                ranked = extend(ranked, place);
            }
            ranked.sort(Comparator.comparing(Path::weight).reversed().thenComparing(path -> path.tags().toString()));
        }
        return ranked;
    }

    private List<Path> extend(List<Path> paths, int place) {
        List<Path> longer = new ArrayList<>();
        int[][] steps = new int[6][5];
        int[] weights = new int[5];
        for (int tag = 0; tag < 5; tag++) {
            weights[tag] = weightOf(sentence.get(place), tag);
            for (int from = -1; from < 5; from++) {
                steps[from + 1][tag] = stepOf(from, tag);
            }
        }
        for (Path path : paths) {
            int from = place == 0 ? -1 : path.tags().get(place - 1);
            for (int tag = 0; tag < 5; tag++) {
                if (locks.get(place) == -1 || locks.get(place) == tag) {
                    List<Integer> tags = new ArrayList<>(path.tags());
                    tags.add(tag);
                    long arc = (long) weights[tag] * steps[from + 1][tag];
                    longer.add(new Path(tags, path.weight().multiply(BigInteger.valueOf(arc))));
                }
            }
        }
        return longer;
    }
}
