/** What the tests have in common: they count, tell what is wrong, and end with exit code 1 if anything is. */
final class Checks {
    private static int made = 0;
    private static int wrong = 0;

    private Checks() {
    }

    interface Call {
        Object answer();
    }

    /** The answer, or the exact name of the exception, so that a subclass of the due one is wrong. */
    static Object answerOf(Call call) {
        try {
            return call.answer();
        } catch (RuntimeException | Error thrown) {
            return "throws " + thrown.getClass().getName();
        }
    }

    static void due(String what, Object due, Call call) {
        Object got = answerOf(call);
        made++;
        if (!due.equals(got)) {
            wrong++;
            System.out.println(what + " answered " + got + ", due is " + due);
        }
    }

    static void index(String what, Call call) {
        due(what, "throws java.lang.IndexOutOfBoundsException", call);
    }

    static void argument(String what, Call call) {
        due(what, "throws java.lang.IllegalArgumentException", call);
    }

    static void state(String what, Call call) {
        due(what, "throws java.lang.IllegalStateException", call);
    }

    static void element(String what, Call call) {
        due(what, "throws java.util.NoSuchElementException", call);
    }

    static void arithmetic(String what, Call call) {
        due(what, "throws java.lang.ArithmeticException", call);
    }

    static void end() {
        System.out.println(made - wrong + " answers as due, " + wrong + " not");
        if (wrong > 0 || made == 0) {
            System.exit(1);
        }
    }
}
