/** Counts what is checked, and says what is not as it is due. */
final class Check {
    interface Call {
        Object run();
    }

    static final Class<?> PLACE = IndexOutOfBoundsException.class;
    static final Class<?> ARGUMENT = IllegalArgumentException.class;
    static final Class<?> STATE = IllegalStateException.class;

    private static String subject = "";
    private static int held = 0;
    private static int wrong = 0;

    private Check() {
    }

    /** What is checked from here on is about this. */
    static void about(String what) {
        subject = what.isEmpty() ? "" : what + "\n    ";
    }

    static void due(String what, Object want, Object got) {
        if (want.equals(got)) {
            held++;
        } else {
            wrong++;
            System.out.println(subject + what + ": answered " + got + ", due is " + want);
        }
    }

    static void throwing(String what, Class<?> want, Call call) {
        due(what, thrown(want), answer(call));
    }

    static String thrown(Class<?> exception) {
        return "throws " + exception.getName();
    }

    /** The class's own name, so that a subclass which the machine throws is told apart. */
    static Object answer(Call call) {
        try {
            return call.run();
        } catch (RuntimeException thrown) {
            return thrown(thrown.getClass());
        }
    }

    static int held() {
        return held;
    }

    static void close(String test) {
        System.out.println(test + ": " + held + " checks hold, " + wrong + " don't");
        if (wrong > 0 || held == 0) {
            System.exit(1);
        }
    }
}
