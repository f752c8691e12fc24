/** Counts what is checked, and says what is not as it is due. */
final class Check {
    interface Call {
        Object run();
    }

    static final Class<?> PLACE = IndexOutOfBoundsException.class;
    static final Class<?> ARGUMENT = IllegalArgumentException.class;
    static final Class<?> STATE = IllegalStateException.class;

    private static int held = 0;
    private static int wrong = 0;

    private Check() {
    }

    static void due(String what, Object want, Object got) {
        if (want.equals(got)) {
            held++;
        } else {
            wrong++;
            System.out.println(what + ": answered " + got + ", due is " + want);
        }
    }

    static void throwing(String what, Class<?> want, Call call) {
        due(what, "throws " + want.getName(), answer(call));
    }

    /** The class's own name, so that a subclass which the machine throws is told apart. */
    static Object answer(Call call) {
        try {
            return call.run();
        } catch (RuntimeException thrown) {
            return "throws " + thrown.getClass().getName();
        }
    }

    static void close(String test) {
        System.out.println(test + ": " + held + " checks hold, " + wrong + " don't");
        if (wrong > 0 || held == 0) {
            System.exit(1);
        }
    }
}
