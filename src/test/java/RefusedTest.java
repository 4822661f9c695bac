/** The section "Exceptions": which exception is thrown, and that a call that throws changes nothing. */
public final class RefusedTest {
    private static final int MIN = Integer.MIN_VALUE;
    private static final int MAX = Integer.MAX_VALUE;
    private static final int NONE = Trellistag.NONE;
    private static final String BOUNDS = "throws.IndexOutOfBoundsException";
    private static final String ARGUMENT = "throws.IllegalArgumentException";
    private static final String STATE = "throws.IllegalStateException";

    private interface Call {
        Object on(Trellistag x);
    }

    private enum State {
        /** As it is made. */
        NEW {
            Scene scene() {
                return new Scene();
            }
        },
        /** Some of all, and nothing typed. */
        SOME_UNTYPED {
            Scene scene() {
                Scene scene = new Scene().text("ab/0 cb/1").text("ca/2").draft("ba/3 a/4").sentence("cab b ca");
                scene.x.text(1, false);
                scene.x.lock(1, 3);
                return scene;
            }
        },
        SOME {
            Scene scene() {
                return SOME_UNTYPED.scene().type("ab");
            }
        },
        /** As many as there can be of all, but nothing typed. */
        FULL_UNTYPED {
            Scene scene() {
                Scene scene = new Scene();
                for (int i = 0; i < 20; i++) {
                    scene.text((i % 3 == 0 ? "a/" : "b/") + i % 5);
                }
                scene.draft("a/0 b/1 a/2 b/3 a/4 b/0").sentence("a b c ca cb");
                scene.x.text(0, false);
                scene.x.text(19, false);
                scene.x.lock(0, 4);
                scene.x.lock(4, 0);
                return scene;
            }
        },
        FULL {
            Scene scene() {
                return FULL_UNTYPED.scene().type("zzzzzz");
            }
        };

        abstract Scene scene();

        boolean isTyped() {
            return this == SOME || this == FULL;
        }

        boolean isFull() {
            return this == FULL || this == FULL_UNTYPED;
        }

        int places() {
            return this == NEW ? 0 : isFull() ? 5 : 3;
        }

        int texts() {
            return this == NEW ? 0 : isFull() ? 20 : 2;
        }
    }

    public static void main(String[] args) {
        for (State state : State.values()) {
            noSuchLetter(state);
            noSuchTag(state);
            noSuchText(state);
            noSuchPlace(state);
            noSuchRank(state);
            notInThisState(state);
        }
        firstNamedFirst();
        Check.finish();
    }

    /** The exception; and of two objects of one state both tell the same behind it, though one had this call more. */
    private static void refuses(State state, String what, String exception, Call call) {
        Trellistag with = state.scene().x;
        Trellistag without = state.scene().x;
        Check.answers(state + ": " + what, exception, () -> call.on(with));
        Check.due(state + ": all behind " + what, Picture.of(with), Picture.of(without));
    }

    private static void noSuchLetter(State state) {
        for (char letter : new char[] {0, 'A', 'Z', 'a' - 1, 'z' + 1, 'a' + 256, 65535}) {
            refuses(state, "letter " + (int) letter, ARGUMENT, x -> x.letter(letter));
        }
    }

    private static void noSuchTag(State state) {
        for (int tag : new int[] {MIN, NONE - 1, 5, MAX}) {
            refuses(state, "lock(0, " + tag + ")", BOUNDS, x -> x.lock(0, tag));
            refuses(state, "step(" + tag + ", 0)", BOUNDS, x -> x.step(tag, 0));
        }
        for (int tag : new int[] {MIN, NONE, 5, MAX}) {
            refuses(state, "tag(" + tag + ")", BOUNDS, x -> x.tag(tag));
            refuses(state, "weight(" + tag + ")", BOUNDS, x -> x.weight(tag));
            refuses(state, "step(0, " + tag + ")", BOUNDS, x -> x.step(0, tag));
            refuses(state, "step(NONE, " + tag + ")", BOUNDS, x -> x.step(NONE, tag));
            refuses(state, "share(0, " + tag + ")", BOUNDS, x -> x.share(0, tag));
            refuses(state, "shareAnew(0, " + tag + ")", BOUNDS, x -> x.shareAnew(0, tag));
        }
    }

    private static void noSuchText(State state) {
        for (int text : new int[] {MIN, -1, state.texts(), MAX}) {
            refuses(state, "text(" + text + ", true)", BOUNDS, x -> x.text(text, true));
            refuses(state, "text(" + text + ", false)", BOUNDS, x -> x.text(text, false));
        }
    }

    private static void noSuchPlace(State state) {
        for (int place : new int[] {MIN, -1, state.places(), MAX}) {
            refuses(state, "lock(" + place + ", 0)", BOUNDS, x -> x.lock(place, 0));
            refuses(state, "lock(" + place + ", NONE)", BOUNDS, x -> x.lock(place, NONE));
            refuses(state, "path(0, " + place + ")", BOUNDS, x -> x.path(0, place));
            refuses(state, "pathAnew(0, " + place + ")", BOUNDS, x -> x.pathAnew(0, place));
            refuses(state, "share(" + place + ", 0)", BOUNDS, x -> x.share(place, 0));
            refuses(state, "shareAnew(" + place + ", 0)", BOUNDS, x -> x.shareAnew(place, 0));
        }
    }

    private static void noSuchRank(State state) {
        for (int rank : new int[] {MIN, -1, 10, MAX}) {
            refuses(state, "path(" + rank + ", 0)", BOUNDS, x -> x.path(rank, 0));
            refuses(state, "pathAnew(" + rank + ", 0)", BOUNDS, x -> x.pathAnew(rank, 0));
            refuses(state, "product(" + rank + ")", BOUNDS, x -> x.product(rank));
        }
    }

    private static void notInThisState(State state) {
        if (state == State.FULL) {
            refuses(state, "a seventh letter", STATE, x -> x.letter('a'));
        }
        if (!state.isTyped() || state.isFull()) {
            refuses(state, "tag(0)", STATE, x -> x.tag(0));
            refuses(state, "word()", STATE, Trellistag::word);
        }
        if (!state.isTyped()) {
            refuses(state, "weight(0)", STATE, x -> x.weight(0));
        }
        if (state == State.NEW || state.isFull()) {
            refuses(state, "add()", STATE, Trellistag::add);
        }
        if (state == State.NEW) {
            refuses(state, "product(0)", STATE, x -> x.product(0));
            refuses(state, "product(9)", STATE, x -> x.product(9));
            refuses(state, "cost()", STATE, Trellistag::cost);
        }
    }

    /** "If several apply, the one that is named first in the throws clause is thrown". */
    private static void firstNamedFirst() {
        refuses(State.FULL, "letter: none of a to z ahead of six letters", ARGUMENT, x -> x.letter('{'));
        refuses(State.NEW, "tag: no such tag ahead of nothing typed", BOUNDS, x -> x.tag(5));
        refuses(State.FULL, "tag: no such tag ahead of a full draft", BOUNDS, x -> x.tag(-1));
        refuses(State.FULL_UNTYPED, "tag: no such tag ahead of both", BOUNDS, x -> x.tag(5));
        refuses(State.NEW, "weight: no such tag ahead of nothing typed", BOUNDS, x -> x.weight(5));
        refuses(State.NEW, "product: no such rank ahead of an empty sentence", BOUNDS, x -> x.product(10));
        refuses(State.NEW, "lock: neither place nor tag", BOUNDS, x -> x.lock(0, 5));
        refuses(State.NEW, "path: neither place nor rank", BOUNDS, x -> x.path(10, 0));
        refuses(State.NEW, "pathAnew: neither place nor rank", BOUNDS, x -> x.pathAnew(-1, 0));
        refuses(State.NEW, "share: neither place nor tag", BOUNDS, x -> x.share(0, 5));
        refuses(State.NEW, "shareAnew: neither place nor tag", BOUNDS, x -> x.shareAnew(0, -1));
    }
}
