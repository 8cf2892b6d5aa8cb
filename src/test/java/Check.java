import java.util.NoSuchElementException;
import java.util.function.IntSupplier;

/** Collects the answers of a test that are not as due, and ends the test with exit code 1 if there was one. */
final class Check {
    /** Stand for what a call throws, or for the answer of a call that has none. */
    static final int ARGUMENT = 1001;
    static final int STATE = 1002;
    static final int NO_ELEMENT = 1003;
    static final int OTHER = 1004;
    static final int DONE = 1000;

    private final String test;
    private int calls = 0;
    private int wrong = 0;

    Check(String test) {
        this.test = test;
    }

    void due(int due, String call, IntSupplier run) {
        same(due, call, answerOf(run));
    }

    void done(String call, Runnable run) {
        due(DONE, call, () -> {
            run.run();
            return DONE;
        });
    }

    void thrown(int due, String call, Runnable run) {
        due(due, call, () -> {
            run.run();
            return DONE;
        });
    }

    void same(int due, String call, int got) {
        calls++;
        if (got != due) {
            wrong++;
            System.out.println(test + ": " + call + " answered " + text(got) + ", due is " + text(due));
        }
    }

    void end() {
        System.out.println(test + ": " + calls + " answers, " + wrong + " of them not as due");
        if (wrong != 0 || calls == 0) {
            System.exit(1);
        }
    }

    /** An exception counts by its very class, so that one of a subclass is not taken for it. */
    static int answerOf(IntSupplier run) {
        try {
            return run.getAsInt();
        } catch (RuntimeException e) {
            if (e.getClass() == IllegalArgumentException.class) {
                return ARGUMENT;
            }
            if (e.getClass() == IllegalStateException.class) {
                return STATE;
            }
            return e.getClass() == NoSuchElementException.class ? NO_ELEMENT : OTHER;
        }
    }

    static String text(int answer) {
        return switch (answer) {
            case ARGUMENT -> "throws.IllegalArgumentException";
            case STATE -> "throws.IllegalStateException";
            case NO_ELEMENT -> "throws.NoSuchElementException";
            case OTHER -> "throws another exception";
            case DONE -> "nothing";
            default -> Integer.toString(answer);
        };
    }
}
