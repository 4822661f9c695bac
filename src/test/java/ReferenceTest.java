/** All promises: long runs of calls, right ones and wrong ones, each answered as the reference answers it. */
public final class ReferenceTest {
    private static final int RUNS = 240;
    private static final int CALLS = 512;

    private final Trellistag x = new Trellistag();
    private final Reference due = new Reference();
    private final int run;
    private final int letters;
    private final int questions;
    private long seed;

    private ReferenceTest(int run) {
        this.run = run;
        this.seed = 1000003L * run + 17;
        this.letters = 1 + run % 4;
        this.questions = 5 + 15 * (run % 5);
    }

    public static void main(String[] args) {
        for (int run = 0; run < RUNS; run++) {
            new ReferenceTest(run).go();
        }
        Check.finish();
    }

    private int pick(int bound) {
        seed = seed * 6364136223846793005L + 1442695040888963407L;
        return (int) ((seed >>> 33) % bound);
    }

    /** Mostly from 0 to below the bound, now and then outside of it. */
    private int near(int bound) {
        int kind = pick(40);
        if (kind == 0) {
            return Integer.MIN_VALUE + pick(2);
        }
        if (kind == 1) {
            return Integer.MAX_VALUE - pick(2);
        }
        return kind < 4 ? pick(bound + 4) - 2 : pick(Math.max(1, bound));
    }

    private void go() {
        for (int call = 0; call < CALLS; call++) {
            if (pick(100) < questions) {
                ask();
            } else {
                change();
            }
        }
    }

    private void same(String call, Check.Call got, Check.Call wanted) {
        Check.due("run " + run + ": " + call, Check.outcome(got), Check.outcome(wanted));
    }

    private void change() {
        int kind = pick(100);
        if (kind < 48) {
            char letter = pick(60) == 0 ? (char) pick(300) : (char) ('a' + pick(letters));
            same("letter " + (int) letter, () -> x.letter(letter), () -> due.letter(letter));
        } else if (kind < 72) {
            int tag = pick(3) == 0 ? near(5) : pick(2) + run % 4;
            same("tag " + tag, () -> x.tag(tag), () -> due.tag(tag));
        } else if (kind < 77) {
            same("add", x::add, due::add);
        } else if (kind < 81) {
            int text = near(20);
            boolean counts = pick(3) > 0;
            same("text " + text + " " + counts, () -> x.text(text, counts), () -> due.text(text, counts));
        } else if (kind < 92) {
            same("word", x::word, due::word);
        } else if (kind < 94) {
            same("clear", x::clear, due::clear);
        } else {
            int place = near(5);
            int tag = pick(2) == 0 ? -1 : near(5);
            same("lock " + place + " " + tag, () -> x.lock(place, tag), () -> due.lock(place, tag));
        }
    }

    private void ask() {
        int rank = near(10);
        int place = near(5);
        int tag = near(5);
        int from = near(6) - 1;
        String atRank = " " + rank + " " + place;
        String atTag = " " + place + " " + tag;
        switch (pick(9)) {
            case 0 -> same("weight " + tag, () -> x.weight(tag), () -> due.weight(tag));
            case 1 -> same("step " + from + " " + tag, () -> x.step(from, tag), () -> due.step(from, tag));
            case 2 -> same("path" + atRank, () -> x.path(rank, place), () -> due.path(rank, place));
            case 3 -> same("pathAnew" + atRank, () -> x.pathAnew(rank, place), () -> due.path(rank, place));
            case 4 -> same("product " + rank, () -> x.product(rank), () -> due.product(rank));
            case 5 -> same("cost", x::cost, due::cost);
            case 6 -> same("share" + atTag, () -> x.share(place, tag), () -> due.share(place, tag));
            case 7 -> same("shareAnew" + atTag, () -> x.shareAnew(place, tag), () -> due.share(place, tag));
            default -> same("texts", x::texts, due::texts);
        }
    }
}
