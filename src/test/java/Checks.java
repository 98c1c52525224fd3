import java.util.NoSuchElementException;

/** Collects the answers that are not due; a test ends with exit code 1 if there was one. */
final class Checks {
    /** A call whose answer is a number, 1 or 0 for a boolean. */
    interface Call {
        long answer();
    }

    private int wrong;
    private int checked;

    /** Compares the answer of a call; what it throws counts as another answer. */
    void due(String name, Call call, long want) {
        expect(name, answerOf(call), Long.toString(want));
    }

    void dueThrow(String name, Call call, Class<? extends RuntimeException> want) {
        expect(name, answerOf(call), want.getSimpleName());
    }

    void expect(String name, String got, String want) {
        checked++;
        if (!got.equals(want)) {
            wrong++;
            System.out.println(name + " answered " + got + ", due is " + want);
        }
    }

    int wrong() {
        return wrong;
    }

    /** The number, or the name of just that class which was thrown. */
    static String answerOf(Call call) {
        try {
            return Long.toString(call.answer());
        } catch (IllegalArgumentException | IllegalStateException | IndexOutOfBoundsException
                | NoSuchElementException thrown) {
            return thrown.getClass().getSimpleName();
        } catch (RuntimeException thrown) {
            return "a wrong exception, " + thrown.getClass().getName();
        }
    }

    void finish() {
        if (wrong > 0) {
            System.out.println(wrong + " of " + checked + " answers are not as due");
            System.exit(1);
        }
        System.out.println("all " + checked + " answers are as due");
    }
}
