/** All that an object tells, in one order; the last calls change it, so that also what no question tells is seen. */
final class Picture {
    private static final int TAGS = 5;
    private static final int RANKS = 10;
    private static final int PLACES = 5;
    private static final int TEXTS = 20;

    private final Trellistag x;
    private final StringBuilder told = new StringBuilder();

    private Picture(Trellistag x) {
        this.x = x;
    }

    /** Makes fewer than 300 calls, so that an object may have had some 200 ahead of it. */
    static String of(Trellistag x) {
        Picture picture = new Picture(x);
        picture.weights();
        picture.steps();
        picture.products();
        picture.paths();
        picture.shares();
        picture.locks();
        picture.products();
        picture.shares();
        picture.typed();
        picture.draft();
        picture.texts();
        return picture.told.toString();
    }

    private void ask(Check.Call call) {
        told.append(Check.outcome(call)).append(' ');
    }

    private void part(String name) {
        told.append(name).append(": ");
    }

    private void weights() {
        part("weights");
        for (int tag = 0; tag < TAGS; tag++) {
            int to = tag;
            ask(() -> x.weight(to));
        }
    }

    private void steps() {
        part("steps");
        for (int from = Trellistag.NONE; from < TAGS; from++) {
            for (int tag = 0; tag < TAGS; tag++) {
                int behind = from;
                int to = tag;
                ask(() -> x.step(behind, to));
            }
        }
    }

    private void products() {
        part("products");
        for (int rank = 0; rank < RANKS; rank++) {
            int at = rank;
            ask(() -> x.product(at));
        }
        ask(x::cost);
    }

    private void paths() {
        part("paths");
        for (int place = 0; place < PLACES; place++) {
            for (int rank = 0; rank < RANKS; rank++) {
                int at = place;
                int of = rank;
                ask(() -> x.path(of, at));
                ask(() -> x.pathAnew(of, at));
            }
        }
    }

    private void shares() {
        part("shares");
        for (int place = 0; place < PLACES; place++) {
            for (int tag = 0; tag < TAGS; tag++) {
                int at = place;
                int to = tag;
                ask(() -> x.share(at, to));
            }
        }
    }

    private void locks() {
        part("locks");
        for (int place = 0; place < PLACES; place++) {
            int at = place;
            ask(() -> x.lock(at, Trellistag.NONE));
        }
    }

    private void typed() {
        part("typed");
        ask(() -> x.letter('a'));
        weights();
        ask(x::word);
        ask(x::clear);
    }

    private void draft() {
        part("draft");
        ask(() -> x.letter('b'));
        ask(() -> x.tag(1));
        ask(x::add);
        steps();
    }

    private void texts() {
        part("texts");
        ask(x::texts);
        for (int text = 0; text < TEXTS; text++) {
            int number = text;
            ask(() -> x.text(number, false));
        }
    }
}
