import java.util.NoSuchElementException;
import java.util.function.LongSupplier;

/** Gathers the answers that are not as due; a test ends with exit code 1 if there was one. */
final class Due {
    private static final int MOST_TOLD = 50;

    private final String test;
    private String about = "";
    private int asked;
    private int wrong;

    Due(String test) {
        this.test = test;
    }

    /** What the next answers belong to. */
    void about(String words) {
        about = words + ": ";
    }

    void is(String call, long got, long want) {
        asked++;
        if (got != want) {
            tell(call + " answered " + got + ", due is " + want);
        }
    }

    void is(String call, boolean got, boolean want) {
        is(call, got ? 1 : 0, want ? 1 : 0);
    }

    void throwsNoSuchElement(String call, LongSupplier asking) {
        asked++;
        try {
            tell(call + " answered " + asking.getAsLong() + ", due is NoSuchElementException");
        } catch (NoSuchElementException due) {
            return;
        } catch (RuntimeException other) {
            tell(call + " threw " + other + ", due is NoSuchElementException");
        }
    }

    void tell(String text) {
        wrong++;
        if (wrong <= MOST_TOLD) {
            System.out.println(test + ": " + about + text);
        }
    }

    int asked() {
        return asked;
    }

    int wrong() {
        return wrong;
    }

    boolean allRight() {
        return wrong == 0;
    }

    void end() {
        System.out.println(test + ": " + asked + " answers, " + wrong + " wrong");
        if (wrong != 0 || asked == 0) {
            System.exit(1);
        }
    }
}
