import java.util.function.IntSupplier;

/** Compares answers with those that are due, and ends a test with exit code 1 if one differed. */
final class Expect {
    private static int wrong;
    private static int asked;

    private Expect() {
    }

    static void due(String call, long got, long want) {
        asked++;
        if (got != want) {
            report(call + " answered " + got + ", due is " + want);
        }
    }

    static void due(String call, String got, String want) {
        asked++;
        if (!got.equals(want)) {
            report(call + " answered\n  " + got + "\ndue is\n  " + want);
        }
    }

    static void yes(String claim, boolean holds) {
        asked++;
        if (!holds) {
            report(claim + " does not hold");
        }
    }

    /** The exception must be of this very class: some of the others are its subclasses. */
    static void refused(String call, Class<? extends RuntimeException> want, Runnable body) {
        asked++;
        try {
            body.run();
            report(call + " threw nothing, due is " + want.getSimpleName());
        } catch (RuntimeException thrown) {
            if (thrown.getClass() != want) {
                report(call + " threw " + thrown + ", due is " + want.getSimpleName());
            }
        }
    }

    /** What a call answers, or the exception that it throws, as a text. */
    static String answer(IntSupplier call) {
        try {
            return Integer.toString(call.getAsInt());
        } catch (RuntimeException thrown) {
            return "throws." + thrown.getClass().getSimpleName();
        }
    }

    private static void report(String text) {
        wrong++;
        if (wrong <= 20) {
            System.out.println(text);
        }
    }

    static void end() {
        System.out.println(asked + " answers looked at, " + wrong + " wrong");
        if (wrong != 0) {
            System.exit(1);
        }
    }
}
