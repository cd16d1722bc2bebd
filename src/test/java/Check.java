/** Counts the answers of one test that are not the ones due, and ends it with exit code 1 if there were any. */
final class Check {
    static final Class<? extends RuntimeException> ARGUMENT = IllegalArgumentException.class;
    static final Class<? extends RuntimeException> STATE = IllegalStateException.class;
    static final Class<? extends RuntimeException> INDEX = IndexOutOfBoundsException.class;

    private static int wrong = 0;

    private Check() {
    }

    static void due(String call, long got, long want) {
        if (got != want) {
            tell(call + " answered " + got + ", due is " + want);
        }
    }

    static void yes(String call, boolean got) {
        if (!got) {
            tell(call + " does not hold");
        }
    }

    static void no(String call, boolean got) {
        yes("not " + call, !got);
    }

    /** The exact class counts: a machine's ArrayIndexOutOfBoundsException is not the document's exception. */
    static void thrown(String call, Class<? extends RuntimeException> want, Runnable what) {
        try {
            what.run();
        } catch (RuntimeException e) {
            if (e.getClass() != want) {
                tell(call + " threw " + e.getClass().getName() + ", due is " + want.getName());
            }
            return;
        }
        tell(call + " threw nothing, due is " + want.getName());
    }

    /** Runs a call that is to throw, and asks that nothing that can be seen has changed. */
    static void refused(TransitSteps x, String call, Class<? extends RuntimeException> want, Runnable what) {
        String before = Look.at(x);
        thrown(call, want, what);
        same(call, before, Look.at(x));
    }

    /** Asks that two looks at an object are the same. */
    static void same(String call, String before, String after) {
        if (!before.equals(after)) {
            tell(call + " changed " + before + " to " + after);
        }
    }

    static void tell(String fault) {
        wrong++;
        if (wrong <= 40) {
            System.out.println(fault);
        }
    }

    static void end() {
        if (wrong != 0) {
            System.out.println(wrong + " answers are not as due");
            System.exit(1);
        }
    }
}
