/** Counts answers that are not the ones that are due, and prints them. */
final class Due {
    interface Call {
        long answer();
    }

    interface TextCall {
        String answer();
    }

    static final Class<?> BAD_INDEX = IndexOutOfBoundsException.class;
    static final Class<?> BAD_ARGUMENT = IllegalArgumentException.class;
    static final Class<?> BAD_STATE = IllegalStateException.class;

    private static int checked = 0;
    private static int wrong = 0;

    private Due() {
    }

    static void same(String what, long got, long want) {
        same(what, Long.toString(got), Long.toString(want));
    }

    static void same(String what, boolean got, boolean want) {
        same(what, Boolean.toString(got), Boolean.toString(want));
    }

    static void same(String what, String got, String want) {
        checked++;
        if (!want.equals(got)) {
            wrong++;
            System.out.println(what + " answered " + got + ", due is " + want);
        }
    }

    /** What a call answers, or the name of the very class that it throws, and who throws it. */
    static String outcome(Call call) {
        try {
            return Long.toString(call.answer());
        } catch (RuntimeException e) {
            return thrown(e);
        }
    }

    static String outcomeOfText(TextCall call) {
        try {
            return call.answer();
        } catch (RuntimeException e) {
            return thrown(e);
        }
    }

    /** Tells a throw of the class (or of the model) from one of the machine or of its library. */
    private static String thrown(RuntimeException e) {
        StackTraceElement[] trace = e.getStackTrace();
        String thrower = trace.length == 0 ? "" : trace[0].getClassName();
        boolean isTold = thrower.equals("Grainclock") || thrower.equals("Model");
        return (isTold ? "throws." : "the machine throws.") + e.getClass().getSimpleName();
    }

    /** The call throws the very class, and the digest says that nothing changed. */
    static void refused(String what, Grainclock x, Class<?> kind, Call call) {
        long before = x.digest();
        same(what, outcome(call), "throws." + kind.getSimpleName());
        same(what + " changes nothing", x.digest(), before);
    }

    static void end() {
        System.out.println(checked + " answers, " + wrong + " not as due");
        if (wrong != 0 || checked == 0) {
            System.exit(1);
        }
    }
}
