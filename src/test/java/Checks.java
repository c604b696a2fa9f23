/** Counts answers that are as due and prints those that are not. */
final class Checks {
    private static int passed;
    private static int failed;
    private static String heading = "";

    private Checks() {
    }

    /** A call of the program; a boolean answer counts 1 or 0. */
    interface Call {
        long answer();
    }

    static void due(String call, long want, long got) {
        tell(want == got, call + " answered " + got + ", due is " + want);
    }

    static void dueTrue(String call, boolean got) {
        tell(got, call + " answered false, due is true");
    }

    static void dueFalse(String call, boolean got) {
        tell(!got, call + " answered true, due is false");
    }

    static void outOfBounds(String call, Call run) {
        dueThrow(call, "IndexOutOfBoundsException", run);
    }

    static void badArgument(String call, Call run) {
        dueThrow(call, "IllegalArgumentException", run);
    }

    static void badState(String call, Call run) {
        dueThrow(call, "IllegalStateException", run);
    }

    static void dueText(String call, String want, String got) {
        tell(want.equals(got), call + " answered " + got + ", due is " + want);
    }

    /** The answer as a number, or the simple name of the exception that the call throws. */
    static String outcome(Call run) {
        try {
            return Long.toString(run.answer());
        } catch (RuntimeException e) {
            return e.getClass().getSimpleName();
        }
    }

    static int failures() {
        return failed;
    }

    static int count() {
        return passed + failed;
    }

    /** What every complaint from here on begins with. */
    static void begin(String newHeading) {
        heading = newHeading;
    }

    static String summary() {
        return passed + " checks as due, " + failed + " not";
    }

    private static void dueThrow(String call, String exception, Call run) {
        String got = outcome(run);
        tell(exception.equals(got), call + " answered " + got + ", due is " + exception);
    }

    private static void tell(boolean isRight, String complaint) {
        if (isRight) {
            passed++;
        } else {
            failed++;
            System.out.println(heading + complaint);
        }
    }
}
