/** Counts what is as due and what is not; a test ends with finish(). */
final class Check {
    private static int passed = 0;
    private static int failed = 0;

    private Check() {
    }

    interface Call {
        Object answer();
    }

    static void due(String what, Object got, Object due) {
        if (due.equals(got)) {
            passed++;
        } else {
            failed++;
            System.out.println(what + " answered " + got + ", due is " + due);
        }
    }

    static void answers(String what, Object due, Call call) {
        due(what, outcome(call), String.valueOf(due));
    }

    static void outOfBounds(String what, Call call) {
        answers(what, "throws.IndexOutOfBoundsException", call);
    }

    static void illegalArgument(String what, Call call) {
        answers(what, "throws.IllegalArgumentException", call);
    }

    static void illegalState(String what, Call call) {
        answers(what, "throws.IllegalStateException", call);
    }

    /** The exact class counts: what the machine throws is a subclass, or another class altogether. */
    static String outcome(Call call) {
        try {
            return String.valueOf(call.answer());
        } catch (RuntimeException e) {
            return "throws." + e.getClass().getSimpleName();
        }
    }

    static void finish() {
        System.out.println(passed + " passed, " + failed + " failed");
        if (failed > 0) {
            System.exit(1);
        }
    }
}
