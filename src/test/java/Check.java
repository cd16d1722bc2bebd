import java.util.function.IntUnaryOperator;
import java.util.function.LongSupplier;

/** Counts the answers of one test that are not the ones due, and ends it with exit code 1 if there were any. */
final class Check {
    static final Class<? extends RuntimeException> ARGUMENT = IllegalArgumentException.class;
    static final Class<? extends RuntimeException> STATE = IllegalStateException.class;
    static final Class<? extends RuntimeException> INDEX = IndexOutOfBoundsException.class;

    private static final int MOST_TOLD = 40;

    private static int wrong = 0;
    private static String sentence = "";
    private static String sentenceTold = "";

    private Check() {
    }

    /** The document's words that the checks behind this one are about; told with the first of their faults. */
    static void sentence(String words) {
        sentence = words;
    }

    static void due(String call, long got, long want) {
        if (got != want) {
            tell(call + " answered " + got + ", due is " + want);
        }
    }

    /** Asks a row of questions, 0, 1, .. , of which each has its answer. */
    static void row(String what, IntUnaryOperator question, int... due) {
        for (int i = 0; i < due.length; i++) {
            due(what + " " + i, question.applyAsInt(i), due[i]);
        }
    }

    static void yes(String call, boolean got) {
        if (!got) {
            tell(call + " does not hold");
        }
    }

    static void no(String call, boolean got) {
        yes("not " + call, !got);
    }

    /** The exact class counts: a machine's ArrayIndexOutOfBoundsException is not the document's exception. */
    static void thrown(String call, Class<? extends RuntimeException> want, Runnable what) {
        try {
            what.run();
        } catch (RuntimeException e) {
            if (e.getClass() != want) {
                tell(call + " threw " + e.getClass().getName() + ", due is " + want.getName());
            }
            return;
        }
        tell(call + " threw nothing, due is " + want.getName());
    }

    /** Runs a call that is to throw, and asks that nothing that can be seen has changed. */
    static void refused(Run x, String call, Class<? extends RuntimeException> want, Runnable what) {
        unchanged(x, call, () -> thrown(call, want, what));
    }

    /** Runs a call that is to answer so, and asks that nothing that can be seen has changed. */
    static void idle(Run x, String call, long answer, LongSupplier what) {
        unchanged(x, call, () -> due(call, what.getAsLong(), answer));
    }

    private static void unchanged(Run x, String call, Runnable what) {
        String before = Look.at(x);
        what.run();
        same(call, before, Look.at(x));
    }

    /** Asks that two looks at an object are the same. */
    static void same(String call, String before, String after) {
        if (!before.equals(after)) {
            tell(call + " is " + after + ", due is " + before);
        }
    }

    static void tell(String fault) {
        wrong++;
        if (wrong > MOST_TOLD) {
            return;
        }
        if (!sentence.equals(sentenceTold)) {
            System.out.println("'" + sentence + "':");
            sentenceTold = sentence;
        }
        System.out.println(fault);
    }

    static void end() {
        if (wrong != 0) {
            System.out.println(wrong + " answers are not as due");
            System.exit(1);
        }
    }
}
