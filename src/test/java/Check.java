/** Counts answers that are not the ones that are due, and ends the program with exit code 1 if there was one. */
final class Check {
    private int wrong;
    private int made;

    interface Call {
        long answer();
    }

    /** An exception's answer is its simple name, so that answers and exceptions are compared alike. */
    static String answerOf(Call call) {
        try {
            return Long.toString(call.answer());
        } catch (RuntimeException e) {
            return e.getClass().getSimpleName();
        }
    }

    void due(String what, String want, String got) {
        made++;
        if (!want.equals(got)) {
            wrong++;
            System.out.println(what + ": answered " + got + ", due is " + want);
        }
    }

    void due(String what, long want, Call call) {
        due(what, Long.toString(want), answerOf(call));
    }

    void dueTrue(String what, boolean holds) {
        due(what, "true", Boolean.toString(holds));
    }

    void dueThrow(String what, Class<? extends RuntimeException> want, Call call) {
        due(what, want.getSimpleName(), answerOf(call));
    }

    void end() {
        System.out.println(made + " answers looked at, " + wrong + " are not as due");
        if (wrong != 0) {
            System.exit(1);
        }
    }
}
