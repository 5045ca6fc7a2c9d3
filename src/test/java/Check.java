import java.util.function.LongSupplier;

/** Counts the answers of one test that are not the ones that are due, and ends it by them. */
final class Check {
    private final String test;
    private int asked = 0;
    private int wrong = 0;

    Check(String test) {
        this.test = test;
    }

    void due(String call, long want, LongSupplier answer) {
        compare(call, String.valueOf(want), answerOf(answer));
    }

    void dueThrow(String call, Class<? extends RuntimeException> want, LongSupplier answer) {
        compare(call, "throws." + want.getSimpleName(), answerOf(answer));
    }

    void compare(String call, String want, String got) {
        asked++;
        if (!got.equals(want)) {
            wrong++;
            System.out.println(test + ": " + call + " answered " + got + ", due is " + want);
        }
    }

    /** Names the class that was thrown itself, so that one below the document's does not pass for it. */
    static String answerOf(LongSupplier answer) {
        try {
            return String.valueOf(answer.getAsLong());
        } catch (RuntimeException e) {
            return "throws." + e.getClass().getSimpleName();
        }
    }

    void end() {
        System.out.println(test + ": " + asked + " answers, " + wrong + " wrong");
        if (wrong != 0 || asked == 0) {
            System.exit(1);
        }
    }
}
