import java.util.List;

/** What the tests share: an answer is compared, or the exception that is due is awaited. */
final class Check {
    static final Class<?> INDEX = IndexOutOfBoundsException.class;
    static final Class<?> ARGUMENT = IllegalArgumentException.class;
    static final Class<?> STATE = IllegalStateException.class;

    interface Call {
        Object run();
    }

    private static int wrong = 0;

    private Check() {
    }

    static void due(String what, long got, long want) {
        if (got != want) {
            wrong++;
            System.out.println(what + " answered " + got + ", due is " + want);
        }
    }

    static void due(String what, boolean got, boolean want) {
        due(what, got ? 1 : 0, want ? 1 : 0);
    }

    static void refused(String what, Class<?> want, Call call) {
        String got;
        try {
            got = "the answer " + call.run();
        } catch (RuntimeException e) {
            if (e.getClass() == want && isThrownByClass(e)) {
                return;
            }
            got = isThrownByClass(e) ? e.toString() : "thrown by the machine: " + e;
        }
        wrong++;
        System.out.println(what + " ended with " + got + ", due is " + want.getSimpleName());
    }

    /** Thrown by a throw statement of the class: what the Java machine's library throws comes from there. */
    static boolean isThrownByClass(RuntimeException e) {
        StackTraceElement[] trace = e.getStackTrace();
        Class<?> type = e.getClass();
        boolean isNamed = type == INDEX || type == ARGUMENT || type == STATE;
        return isNamed && trace.length > 0 && trace[0].getClassName().startsWith("Ropewalk");
    }

    /** Two pictures of one state. */
    static void alike(String what, List<String> got, List<String> want) {
        String difference = Picture.difference(got, want);
        if (!difference.isEmpty()) {
            wrong++;
            System.out.println(what + ": " + difference);
        }
    }

    static void end() {
        if (wrong > 0) {
            System.exit(1);
        }
    }
}
