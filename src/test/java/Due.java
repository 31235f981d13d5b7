import java.util.List;
import java.util.function.Supplier;

/** Counts answers that are not the ones that are due, and prints them. */
final class Due {
    interface Call {
        long answer();
    }

    interface TextCall {
        String answer();
    }

    interface CallOf {
        void on(Grainclock x);
    }

    static final Class<?> BAD_INDEX = IndexOutOfBoundsException.class;
    static final Class<?> BAD_ARGUMENT = IllegalArgumentException.class;
    static final Class<?> BAD_STATE = IllegalStateException.class;
    static final int LEAST = Integer.MIN_VALUE;
    static final int MOST = Integer.MAX_VALUE;
    static final String INDEX_THROWN = "throws.IndexOutOfBoundsException";
    static final String ARGUMENT_THROWN = "throws.IllegalArgumentException";
    static final String STATE_THROWN = "throws.IllegalStateException";

    private static int tests = 0;
    private static int checked = 0;
    private static int wrong = 0;
    private static String sentence = "";

    private Due() {
    }

    /** One test, by the sentence of the document that it holds the class to. */
    static void test(String about, Runnable test) {
        tests++;
        sentence = about + ": ";
        int before = checked;
        String end = outcome(() -> {
            test.run();
            return 0;
        });
        same("the test ends", end, "0");
        same("the test asks something", checked > before + 1, true);
        sentence = "";
    }

    static void same(String what, long got, long want) {
        same(what, Long.toString(got), Long.toString(want));
    }

    static void same(String what, boolean got, boolean want) {
        same(what, Boolean.toString(got), Boolean.toString(want));
    }

    static void same(String what, String got, String want) {
        checked++;
        if (!want.equals(got)) {
            wrong++;
            System.out.println(sentence + what + " answered " + got + ", due is " + want);
        }
    }

    /** What a call answers, or the name of the very class that it throws, and who throws it. */
    static String outcome(Call call) {
        try {
            return Long.toString(call.answer());
        } catch (RuntimeException e) {
            return thrown(e);
        }
    }

    static String outcomeOfText(TextCall call) {
        try {
            return call.answer();
        } catch (RuntimeException e) {
            return thrown(e);
        }
    }

    /** Tells a throw of the class (or of the model) from one of the machine or of its library. */
    private static String thrown(RuntimeException e) {
        StackTraceElement[] trace = e.getStackTrace();
        String thrower = trace.length == 0 ? "" : trace[0].getClassName();
        boolean isTold = thrower.equals("Grainclock") || thrower.equals("Model");
        return (isTold ? "throws." : "the machine throws.") + e.getClass().getSimpleName();
    }

    /** The call throws the very class, and the digest says that nothing changed. */
    static void refused(String what, Grainclock x, Class<?> kind, Call call) {
        long before = x.digest();
        same(what, outcome(call), "throws." + kind.getSimpleName());
        same(what + " changes nothing", x.digest(), before);
    }

    /** The call throws the very class, and leaves its lab as one of the same maker on which it was not made. */
    static void refuses(String what, Supplier<Grainclock> maker, Class<?> kind, CallOf call) {
        Grainclock x = maker.get();
        String got = outcome(() -> {
            call.on(x);
            return 0;
        });
        same(what, got, "throws." + kind.getSimpleName());
        List<String> left = Labs.all(x);
        List<String> due = Labs.all(maker.get());
        same(what + " leaves as many answers", left.size(), due.size());
        for (int k = 0; k < left.size() && k < due.size(); k++) {
            same(what + " leaves", left.get(k), due.get(k));
        }
    }

    static void refusesBusy(String what, Class<?> kind, CallOf call) {
        refuses(what, Labs::busy, kind, call);
    }

    static void refusesFull(String what, Class<?> kind, CallOf call) {
        refuses(what, Labs::full, kind, call);
    }

    static void facts(String what, int[] got, int... want) {
        for (int k = 0; k < want.length; k++) {
            same(what + " " + k, got[k], want[k]);
        }
    }

    static void end() {
        if (tests > 0) {
            System.out.print(tests + " tests, ");
        }
        System.out.println(checked + " answers, " + wrong + " not as due");
        if (wrong != 0 || checked == 0) {
            System.exit(1);
        }
    }
}
