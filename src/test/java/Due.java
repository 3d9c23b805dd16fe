import java.util.NoSuchElementException;
import java.util.function.IntSupplier;

/** Compares answers with those that are due, prints the wrong ones, and ends a test. */
final class Due {
    static final Class<? extends RuntimeException> ARGUMENT = IllegalArgumentException.class;
    static final Class<? extends RuntimeException> STATE = IllegalStateException.class;
    static final Class<? extends RuntimeException> ELEMENT = NoSuchElementException.class;
    static final Class<? extends RuntimeException> INDEX = IndexOutOfBoundsException.class;
    static final Class<? extends RuntimeException> ARITHMETIC = ArithmeticException.class;

    private static int answers = 0;
    private static int wrong = 0;

    private Due() {
    }

    static void same(String call, long got, long want) {
        answers++;
        if (got != want) {
            wrong++;
            System.out.println(call + " answered " + got + ", due is " + want);
        }
    }

    static void same(String call, boolean got, boolean want) {
        same(call, got ? 1 : 0, want ? 1 : 0);
    }

    static void same(String call, String got, String want) {
        answers++;
        if (!got.equals(want)) {
            wrong++;
            System.out.println(call + " answered " + got + ", due is " + want);
        }
    }

    /** The exception must be of this very class: NumberFormatException is no IllegalArgumentException here. */
    static void refused(String call, Class<? extends RuntimeException> due, Runnable tried) {
        answers++;
        try {
            tried.run();
        } catch (RuntimeException e) {
            if (e.getClass() == due) {
                return;
            }
            wrong++;
            System.out.println(call + " throws " + e + ", due is " + due.getName());
            return;
        }
        wrong++;
        System.out.println(call + " throws nothing, due is " + due.getName());
    }

    /** What a call answers, or what it throws, as a text. */
    static String answer(IntSupplier call) {
        try {
            return String.valueOf(call.getAsInt());
        } catch (RuntimeException e) {
            return "throws." + e.getClass().getSimpleName();
        }
    }

    static void end() {
        System.out.println(answers + " answers, of which " + wrong + " wrong");
        if (wrong != 0 || answers == 0) {
            System.exit(1);
        }
    }
}
