/** Compares answers with those that are due, and ends a test with exit code 1 if one was not. */
final class Due {
    private static int asked = 0;
    private static int wrong = 0;

    private Due() {
    }

    static void is(String call, long got, long want) {
        asked++;
        if (got != want) {
            wrong++;
            System.out.println(call + " answered " + got + ", due is " + want);
        }
    }

    static void isDouble(String call, double got, double want) {
        asked++;
        if (got != want) {
            wrong++;
            System.out.println(call + " answered " + got + ", due is " + want);
        }
    }

    static void isText(String what, String got, String want) {
        asked++;
        if (!got.equals(want)) {
            wrong++;
            System.out.println(what + " is " + got + ", due is " + want);
        }
    }

    static void argument(String call, Runnable it) {
        throwsIt(call, it, IllegalArgumentException.class);
    }

    static void index(String call, Runnable it) {
        throwsIt(call, it, IndexOutOfBoundsException.class);
    }

    static void state(String call, Runnable it) {
        throwsIt(call, it, IllegalStateException.class);
    }

    private static void throwsIt(String call, Runnable it, Class<?> want) {
        asked++;
        Class<?> got = null;
        try {
            it.run();
        } catch (RuntimeException e) {
            got = e.getClass();
        }
        if (got != want) {
            wrong++;
            System.out.println(call + " threw " + got + ", due is " + want);
        }
    }

    static void end() {
        System.out.println(asked + " answers asked, " + wrong + " of them not as due");
        if (wrong != 0) {
            System.exit(1);
        }
    }
}
