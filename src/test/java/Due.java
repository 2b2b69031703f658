/** Compares answers with those that are due, and ends a test with exit code 1 if one was not. */
final class Due {
    private static int asked = 0;
    private static int wrong = 0;
    private static String test = "";

    private Due() {
    }

    /** What is wrong from here on is told by the name of this test. */
    static void begin(String name) {
        test = name + ": ";
    }

    private static void tell(String what) {
        wrong++;
        System.out.println(test + what);
    }

    static void is(String call, long got, long want) {
        asked++;
        if (got != want) {
            tell(call + " answered " + got + ", due is " + want);
        }
    }

    static void isDouble(String call, double got, double want) {
        asked++;
        if (got != want) {
            tell(call + " answered " + got + ", due is " + want);
        }
    }

    static void isText(String what, String got, String want) {
        asked++;
        if (!got.equals(want)) {
            tell(what + " is " + got + ", due is " + want);
        }
    }

    static void argument(String call, Runnable it) {
        throwsIt(call, it, IllegalArgumentException.class);
    }

    static void index(String call, Runnable it) {
        throwsIt(call, it, IndexOutOfBoundsException.class);
    }

    static void state(String call, Runnable it) {
        throwsIt(call, it, IllegalStateException.class);
    }

    /** The very class that is due, or null, if nothing is to be thrown. */
    static void throwsIt(String call, Runnable it, Class<?> want) {
        asked++;
        Class<?> got = null;
        try {
            it.run();
        } catch (RuntimeException e) {
            got = e.getClass();
        }
        if (got != want) {
            tell(call + " threw " + got + ", due is " + want);
        }
    }

    static void end() {
        System.out.println(asked + " answers asked, " + wrong + " of them not as due");
        if (wrong != 0) {
            System.exit(1);
        }
    }
}
