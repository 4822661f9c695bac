/** A tagger of words by hidden tags. The project's document tells, as numbered promises, what each method does. */
public final class Trellistag {
    /** There is none. */
    public static final int NONE = -1;

    private static final int TAGS = 5;
    private static final int RANKS = 10;
    private static final int MOST_LETTERS = 6;
    private static final int MOST_DRAFT_WORDS = 6;
    private static final int MOST_TEXTS = 20;
    private static final int MOST_PLACES = 5;

    private static final int MOST_WORD_WEIGHT = 9;
    private static final int MOST_STEP_WEIGHT = 7;
    private static final int KNOWN_WORD_FACTOR = 4;
    private static final int ENDING_FACTOR = 2;
    private static final int LONGEST_ENDING = 3;
    /** Above every ending, so that the word itself always goes ahead of what only ends like it. */
    private static final int SAME_WORD = LONGEST_ENDING + 1;

    private static final int LETTER_BITS = 5;
    private static final int LETTER_MASK = 31;
    private static final int TAG_BITS = 3;
    private static final int TAG_MASK = 7;

    private static final long COST_BOUND = 1152921504606846975L;
    private static final int MOST_DOUBLINGS = 60;
    private static final long THOUSAND = 1000L;

    private final TypedWord typed;
    private final Corpus corpus;
    private final Sentence sentence;
    private final Lattice lattice;
    private final PathFinder trellis;
    private final PathFinder allPaths;
    private final Ranking best;
    private final int[] tagWeights;
    private final long[] tagSums;

    public Trellistag() {
        typed = new TypedWord();
        corpus = new Corpus();
        sentence = new Sentence();
        lattice = new Lattice(corpus, sentence);
        trellis = new Trellis(lattice);
        allPaths = new AllPaths(lattice);
        best = new Ranking();
        tagWeights = new int[TAGS];
        tagSums = new long[TAGS];
    }

    // ---- words, texts

    public int letter(char letter) throws IllegalArgumentException, IllegalStateException {
        if (letter < 'a' || letter > 'z') {
            throw new IllegalArgumentException("a letter is one of a to z");
        }
        if (typed.isFull()) {
            throw new IllegalStateException("the word that is typed has all its letters");
        }
        return typed.append(letter);
    }

    public int tag(int tag) throws IndexOutOfBoundsException, IllegalStateException {
        requireTag(tag);
        requireTyped();
        Text draft = corpus.draft();
        if (draft.isFull()) {
            throw new IllegalStateException("the draft has all its words");
        }
        return draft.append(typed.take(), tag);
    }

    public int add() throws IllegalStateException {
        if (corpus.draft().isEmpty()) {
            throw new IllegalStateException("the draft is empty");
        }
        if (corpus.isFull()) {
            throw new IllegalStateException("there are all the texts that there can be");
        }
        return corpus.keepDraft();
    }

    public boolean text(int text, boolean counts) throws IndexOutOfBoundsException {
        if (!corpus.holds(text)) {
            throw new IndexOutOfBoundsException("there is no such text");
        }
        return corpus.letCount(text, counts);
    }

    // ---- the sentence

    public int word() throws IllegalStateException {
        requireTyped();
        if (sentence.isFull()) {
            throw new IllegalStateException("the sentence has all its words");
        }
        return sentence.append(typed.take());
    }

    public int clear() {
        return sentence.removeAll();
    }

    public int lock(int place, int tag) throws IndexOutOfBoundsException {
        requirePlace(place);
        requireTagOrNone(tag);
        return sentence.lockTo(place, tag);
    }

    // ---- questions

    public int weight(int tag) throws IndexOutOfBoundsException, IllegalStateException {
        requireTag(tag);
        requireTyped();
        corpus.weigh(typed.code(), tagWeights);
        return tagWeights[tag];
    }

    public int step(int from, int to) throws IndexOutOfBoundsException {
        requireTagOrNone(from);
        requireTag(to);
        return corpus.stepWeight(from, to);
    }

    public int path(int rank, int place) throws IndexOutOfBoundsException {
        return tagOnPath(trellis, rank, place);
    }

    public int pathAnew(int rank, int place) throws IndexOutOfBoundsException {
        return tagOnPath(allPaths, rank, place);
    }

    public long product(int rank) throws IndexOutOfBoundsException, IllegalStateException {
        requireRank(rank);
        requireSentence();
        rankPaths(trellis);
        return best.weightOf(rank);
    }

    public int cost() throws IllegalStateException {
        requireSentence();
        rankPaths(trellis);
        return doublings(best.weightOf(0));
    }

    public int share(int place, int tag) throws IndexOutOfBoundsException {
        return shareOfTag(trellis, place, tag);
    }

    public int shareAnew(int place, int tag) throws IndexOutOfBoundsException {
        return shareOfTag(allPaths, place, tag);
    }

    public int texts() {
        return corpus.counting();
    }

    // ---- what the questions have in common

    private int tagOnPath(PathFinder finder, int rank, int place) {
        requirePlace(place);
        requireRank(rank);
        rankPaths(finder);
        return best.tagOf(rank, sentence.size() - 1 - place);
    }

    private void rankPaths(PathFinder finder) {
        lattice.weighAll();
        best.removeAll();
        finder.rankInto(best);
    }

    private int shareOfTag(PathFinder finder, int place, int tag) {
        requirePlace(place);
        requireTag(tag);
        lattice.weighAll();
        finder.sumInto(tagSums, place);
        return thousandths(tagSums[tag], total(tagSums));
    }

    private static long total(long[] sums) {
        long total = 0;
        for (long sum : sums) {
            total += sum;
        }
        return total;
    }

    private static int thousandths(long part, long whole) {
        return whole > 0 ? (int) (THOUSAND * part / whole) : 0;
    }

    private static int doublings(long weight) {
        long doubled = weight;
        int times = 0;
        while (times < MOST_DOUBLINGS && doubled <= COST_BOUND) {
            doubled += doubled;
            times++;
        }
        return times;
    }

    private static boolean isTag(int tag) {
        return tag >= 0 && tag < TAGS;
    }

    private static void requireTag(int tag) {
        if (!isTag(tag)) {
            throw new IndexOutOfBoundsException("there is no such tag");
        }
    }

    private static void requireTagOrNone(int tag) {
        if (tag != NONE) {
            requireTag(tag);
        }
    }

    private static void requireRank(int rank) {
        if (rank < 0 || rank >= RANKS) {
            throw new IndexOutOfBoundsException("there is no such rank");
        }
    }

    private void requirePlace(int place) {
        if (place < 0 || place >= sentence.size()) {
            throw new IndexOutOfBoundsException("there is no such place");
        }
    }

    private void requireTyped() {
        if (typed.isEmpty()) {
            throw new IllegalStateException("nothing is typed");
        }
    }

    private void requireSentence() {
        if (sentence.size() == 0) {
            throw new IllegalStateException("the sentence is empty");
        }
    }

    /**
     * The word that is typed. A word is one number: five bits for each letter, 1 for a to 26 for z, the last letter
     * lowest; so words are alike where their numbers are, and their last letters can be compared bit by bit.
     */
    private static final class TypedWord {
        private int code;
        private int letters;

        boolean isEmpty() {
            return letters == 0;
        }

        boolean isFull() {
            return letters >= MOST_LETTERS;
        }

        int append(char letter) {
            code = (code << LETTER_BITS) | (letter - 'a' + 1);
            letters++;
            return letters;
        }

        int code() {
            return code;
        }

        int take() {
            int taken = code;
            code = 0;
            letters = 0;
            return taken;
        }
    }

    /** Words with their tags: the draft, or a text that was one. */
    private static final class Text {
        private final int[] words = new int[MOST_DRAFT_WORDS];
        private final int[] tags = new int[MOST_DRAFT_WORDS];
        private int size;
        private boolean counts;

        boolean isEmpty() {
            return size == 0;
        }

        boolean isFull() {
            return size >= MOST_DRAFT_WORDS;
        }

        int append(int word, int tag) {
            words[size] = word;
            tags[size] = tag;
            size++;
            return size;
        }
    }

    /** The texts, the draft behind them, and what counts of the texts. */
    private static final class Corpus {
        // One more than there can be texts, so that there is always a draft behind the last one.
        private final Text[] texts = new Text[MOST_TEXTS + 1];
        private final int[] firsts = new int[TAGS];
        private final int[][] steps = new int[TAGS][TAGS];
        private int size;
        private int counting;

        Corpus() {
            for (int i = 0; i <= MOST_TEXTS; i++) {
                texts[i] = new Text();
            }
        }

        Text draft() {
            return texts[size];
        }

        boolean isFull() {
            return size >= MOST_TEXTS;
        }

        boolean holds(int text) {
            return text >= 0 && text < size;
        }

        int counting() {
            return counting;
        }

        int keepDraft() {
            int number = size;
            size++;
            letCount(number, true);
            return number;
        }

        boolean letCount(int number, boolean counts) {
            Text text = texts[number];
            boolean counted = text.counts;
            if (counts != counted) {
                text.counts = counts;
                change(text, counts ? 1 : -1);
            }
            return counted;
        }

        private void change(Text text, int by) {
            counting += by;
            firsts[text.tags[0]] += by;
            for (int i = 1; i < text.size; i++) {
                steps[text.tags[i - 1]][text.tags[i]] += by;
            }
        }

        int stepWeight(int from, int to) {
            int often = isTag(from) ? steps[from][to] : firsts[to];
            return Math.min(MOST_STEP_WEIGHT, often + 1);
        }

        /**
         * Counts, tag by tag, only the words that are most like this one: words with its longest ending are that,
         * as long as the word itself is in no text that counts.
         */
        void weigh(int word, int[] weights) {
            int most = 0;
            clearRow(weights);
            for (int i = 0; i < size; i++) {
                if (texts[i].counts) {
                    most = countInText(texts[i], word, most, weights);
                }
            }
            int factor = factorOf(most);
            for (int tag = 0; tag < TAGS; tag++) {
                weights[tag] = Math.min(MOST_WORD_WEIGHT, factor * weights[tag] + 1);
            }
        }

        private static int factorOf(int likeness) {
            if (likeness == SAME_WORD) {
                return KNOWN_WORD_FACTOR;
            }
            return likeness > 0 ? ENDING_FACTOR : 0;
        }

        private static int countInText(Text text, int word, int mostBefore, int[] often) {
            int most = mostBefore;
            for (int i = 0; i < text.size; i++) {
                int likeness = likeness(text.words[i], word);
                if (likeness > most) {
                    most = likeness;
                    clearRow(often);
                }
                if (likeness == most) {
                    often[text.tags[i]]++;
                }
            }
            return most;
        }

        // No two words are compared ahead of the first letters of both: they would be the same word.
        private static int likeness(int one, int other) {
            if (one == other) {
                return SAME_WORD;
            }
            int letters = 0;
            int mask = LETTER_MASK;
            while (letters < LONGEST_ENDING && (one & mask) == (other & mask)) {
                letters++;
                mask <<= LETTER_BITS;
            }
            return letters;
        }

        private static void clearRow(int[] row) {
            for (int tag = 0; tag < TAGS; tag++) {
                row[tag] = 0;
            }
        }
    }

    /** The words to be tagged, each with the tag that its place is locked to. */
    private static final class Sentence {
        private final int[] words = new int[MOST_PLACES];
        private final int[] locks = new int[MOST_PLACES];
        private int size;

        int size() {
            return size;
        }

        boolean isFull() {
            return size >= MOST_PLACES;
        }

        int append(int word) {
            words[size] = word;
            locks[size] = NONE;
            size++;
            return size;
        }

        int removeAll() {
            int had = size;
            size = 0;
            return had;
        }

        int wordAt(int place) {
            return words[place];
        }

        int lockTo(int place, int tag) {
            int before = locks[place];
            locks[place] = tag;
            return before;
        }

        boolean allows(int place, int tag) {
            return locks[place] == NONE || locks[place] == tag;
        }
    }

    /** The weights of the tags and steps of the sentence; a tag that a lock rules out weighs 0, others 1 or more. */
    private static final class Lattice {
        private final Corpus corpus;
        private final Sentence sentence;
        private final int[][] wordWeights = new int[MOST_PLACES][TAGS];
        // By the tag ahead, and 1: the row of NONE, for the first tag of a path, is row 0.
        private final int[][] stepWeights = new int[TAGS + 1][TAGS];

        Lattice(Corpus corpus, Sentence sentence) {
            this.corpus = corpus;
            this.sentence = sentence;
        }

        int size() {
            return sentence.size();
        }

        /** To be called ahead of every search, as the texts, the sentence and its locks may have changed. */
        void weighAll() {
            for (int tag = 0; tag < TAGS; tag++) {
                for (int from = NONE; from < TAGS; from++) {
                    stepWeights[from + 1][tag] = corpus.stepWeight(from, tag);
                }
            }
            for (int place = 0; place < sentence.size(); place++) {
                corpus.weigh(sentence.wordAt(place), wordWeights[place]);
                ruleOut(place);
            }
        }

        private void ruleOut(int place) {
            for (int tag = 0; tag < TAGS; tag++) {
                if (!sentence.allows(place, tag)) {
                    wordWeights[place][tag] = 0;
                }
            }
        }

        /** What a path's weight is multiplied by when it goes on to this place with this tag. */
        long arc(int place, int from, int tag) {
            return (long) stepWeights[from + 1][tag] * wordWeights[place][tag];
        }
    }

    /**
     * The best paths in their order, as many as there are ranks. A path is one number: three bits for each tag, the
     * last tag lowest; so of paths of one length the one with the lower tags is the lower number.
     */
    private static final class Ranking {
        private final long[] weights = new long[RANKS];
        private final int[] paths = new int[RANKS];
        private int size;

        void removeAll() {
            size = 0;
        }

        void offer(long weight, int path) {
            int rank = size;
            while (rank > 0 && (weight > weights[rank - 1]
                    || (weight == weights[rank - 1] && path < paths[rank - 1]))) {
                rank--;
            }
            if (weight > 0 && rank < RANKS) {
                insert(rank, weight, path);
            }
        }

        private void insert(int rank, long weight, int path) {
            if (size < RANKS) {
                size++;
            }
            for (int i = size - 1; i > rank; i--) {
                weights[i] = weights[i - 1];
                paths[i] = paths[i - 1];
            }
            weights[rank] = weight;
            paths[rank] = path;
        }

        void offerAll(Ranking other) {
            for (int rank = 0; rank < other.size; rank++) {
                offer(other.weights[rank], other.paths[rank]);
            }
        }

        void offerExtended(Ranking other, long arc, int tag) {
            for (int rank = 0; rank < other.size; rank++) {
                offer(other.weights[rank] * arc, extended(other.paths[rank], tag));
            }
        }

        long weightOf(int rank) {
            return rank < size ? weights[rank] : 0;
        }

        int tagOf(int rank, int fromEnd) {
            return rank < size ? (paths[rank] >> (TAG_BITS * fromEnd)) & TAG_MASK : NONE;
        }

        static int extended(int path, int tag) {
            return (path << TAG_BITS) | tag;
        }
    }

    /** A way to find the best paths of the lattice, and the sums of the weights of paths by their tag at a place. */
    private abstract static class PathFinder {
        abstract void rankInto(Ranking ranking);

        abstract void sumInto(long[] sums, int place);
    }

    /** Finds them place by place: of the paths that end with one tag, only the best can become the best of all. */
    private static final class Trellis extends PathFinder {
        private final Lattice lattice;
        private final Ranking[] rankings = new Ranking[MOST_PLACES * TAGS];
        private final long[][] sumsAhead = new long[MOST_PLACES][TAGS];
        private final long[][] sumsBehind = new long[MOST_PLACES][TAGS];

        Trellis(Lattice lattice) {
            this.lattice = lattice;
            for (int i = 0; i < MOST_PLACES * TAGS; i++) {
                rankings[i] = new Ranking();
            }
        }

        void rankInto(Ranking ranking) {
            int last = lattice.size() - 1;
            if (last < 0) {
                return;
            }
            for (int place = 0; place <= last; place++) {
                for (int tag = 0; tag < TAGS; tag++) {
                    rankUpTo(place, tag);
                }
            }
            for (int tag = 0; tag < TAGS; tag++) {
                ranking.offerAll(rankingAt(last, tag));
            }
        }

        private void rankUpTo(int place, int tag) {
            Ranking ranking = rankingAt(place, tag);
            ranking.removeAll();
            if (place == 0) {
                ranking.offer(lattice.arc(0, NONE, tag), tag);
                return;
            }
            for (int from = 0; from < TAGS; from++) {
                ranking.offerExtended(rankingAt(place - 1, from), lattice.arc(place, from, tag), tag);
            }
        }

        private Ranking rankingAt(int place, int tag) {
            return rankings[place * TAGS + tag];
        }

        void sumInto(long[] sums, int place) {
            for (int at = 0; at <= place; at++) {
                for (int tag = 0; tag < TAGS; tag++) {
                    sumsAhead[at][tag] = sumAhead(at, tag);
                }
            }
            for (int at = lattice.size() - 1; at >= place; at--) {
                for (int tag = 0; tag < TAGS; tag++) {
                    sumsBehind[at][tag] = sumBehind(at, tag);
                }
            }
            for (int tag = 0; tag < TAGS; tag++) {
                sums[tag] = sumsAhead[place][tag] * sumsBehind[place][tag];
            }
        }

        private long sumAhead(int place, int tag) {
            if (place == 0) {
                return lattice.arc(0, NONE, tag);
            }
            long sum = 0;
            for (int from = 0; from < TAGS; from++) {
                sum += sumsAhead[place - 1][from] * lattice.arc(place, from, tag);
            }
            return sum;
        }

        private long sumBehind(int place, int tag) {
            if (place == lattice.size() - 1) {
                return 1;
            }
            long sum = 0;
            for (int to = 0; to < TAGS; to++) {
                sum += lattice.arc(place + 1, tag, to) * sumsBehind[place + 1][to];
            }
            return sum;
        }
    }

    /** Finds them by a walk over all paths, in the order of their tags. */
    private static final class AllPaths extends PathFinder {
        private final Lattice lattice;
        private final int[] tags = new int[MOST_PLACES];
        // Of the first tags of the path, as many as the index tells: so only what changes is multiplied again.
        private final long[] weights = new long[MOST_PLACES + 1];
        private final int[] paths = new int[MOST_PLACES + 1];

        AllPaths(Lattice lattice) {
            this.lattice = lattice;
        }

        void rankInto(Ranking ranking) {
            int size = lattice.size();
            int count = countPaths();
            startWalk();
            for (int number = 0; number < count; number++) {
                ranking.offer(weights[size], paths[size]);
                goOn();
            }
        }

        void sumInto(long[] sums, int place) {
            for (int tag = 0; tag < TAGS; tag++) {
                sums[tag] = 0;
            }
            int size = lattice.size();
            int count = countPaths();
            startWalk();
            for (int number = 0; number < count; number++) {
                sums[tags[place]] += weights[size];
                goOn();
            }
        }

        private int countPaths() {
            int count = 1;
            for (int place = 0; place < lattice.size(); place++) {
                count *= TAGS;
            }
            return count;
        }

        private void startWalk() {
            weights[0] = 1;
            paths[0] = 0;
            for (int place = 0; place < lattice.size(); place++) {
                tags[place] = 0;
            }
            weighFrom(0);
        }

        private void goOn() {
            int place = lattice.size() - 1;
            while (place > 0 && tags[place] == TAGS - 1) {
                tags[place] = 0;
                place--;
            }
            if (place >= 0 && tags[place] < TAGS - 1) {
                tags[place]++;
                weighFrom(place);
            }
        }

        private void weighFrom(int first) {
            for (int place = first; place < lattice.size(); place++) {
                int from = place > 0 ? tags[place - 1] : NONE;
                weights[place + 1] = weights[place] * lattice.arc(place, from, tags[place]);
                paths[place + 1] = Ranking.extended(paths[place], tags[place]);
            }
        }
    }
}
