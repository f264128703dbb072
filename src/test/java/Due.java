import java.util.NoSuchElementException;

/** Compares answers with those that are due, and ends the test with exit code 1 if one was wrong. */
final class Due {
    /** A call that may throw. */
    interface Call {
        Object make();
    }

    static final String NO_SUCH = "throws.NoSuchElementException";
    static final String ARGUMENT = "throws.IllegalArgumentException";
    static final String STATE = "throws.IllegalStateException";

    private static int wrong = 0;

    private Due() {
    }

    static void is(String what, Object due, Object got) {
        if (!due.equals(got)) {
            wrong++;
            System.out.println(what + " answered " + got + ", due is " + due);
        }
    }

    static void call(String what, Object due, Call call) {
        is(what, due, answerOf(call));
    }

    /** The call throws, and what can be seen of the bench is then as it was before. */
    static void refused(String what, String due, GateBench x, Call call) {
        String before = Benches.stateOf(x);
        call(what, due, call);
        is(what + ", state behind it,", before, Benches.stateOf(x));
    }

    /** What the call answers, or the name of what it throws behind "throws.". */
    static Object answerOf(Call call) {
        try {
            return call.make();
        } catch (NoSuchElementException e) {
            return NO_SUCH;
        } catch (RuntimeException e) {
            return "throws." + e.getClass().getSimpleName();
        }
    }

    static void end() {
        System.out.println(wrong == 0 ? "all answers are as due" : wrong + " answers are not as due");
        if (wrong != 0) {
            System.exit(1);
        }
    }
}
