import java.io.IOException;
import java.lang.reflect.InvocationTargetException;
import java.lang.reflect.Method;
import java.util.Map;
import java.util.TreeMap;
import java.util.function.Consumer;
import java.util.function.Supplier;
import java.util.stream.IntStream;

/** Looks at the boundaries that the document names, from both sides. */
final class Bounds {
    /** A call with one of its arguments left open. */
    interface Call {
        void on(FlushGarden g, int x);
    }

    private Bounds() {
    }

    static Map<String, Method> testsOf(Class<?> tests) {
        Map<String, Method> found = new TreeMap<>();
        for (Method test : tests.getDeclaredMethods()) {
            if (test.isAnnotationPresent(Says.class)) {
                found.put(test.getName(), test);
            }
        }
        return found;
    }

    /** The promise by which a test is named: promise07_... is 7. */
    static int promiseOf(String test) {
        return Integer.parseInt(test.substring("promise".length(), "promise".length() + 2));
    }

    /** Runs every test of the class, each by itself, so that one that fails hides no other. */
    static void run(Class<?> tests) throws IOException, IllegalAccessException {
        Document document = new Document();
        for (Map.Entry<String, Method> test : testsOf(tests).entrySet()) {
            Due.begin(test.getKey());
            String said = document.terms() + document.promise(promiseOf(test.getKey()));
            for (String quote : test.getValue().getAnnotation(Says.class).value()) {
                Due.is("stands in the document: '" + quote + "'", said.contains(quote) ? 1 : 0, 1);
            }
            try {
                test.getValue().setAccessible(true);
                test.getValue().invoke(null);
            } catch (InvocationTargetException e) {
                Due.isText("what the test threw", String.valueOf(e.getCause()), "nothing");
            }
        }
        Due.end();
    }

    /** Each x from least to most is taken, those beyond are refused; each on a garden of its own. */
    private static void range(String call, Class<?> refusal, Supplier<FlushGarden> garden, int least, int most, Call it) {
        for (int x = least; x <= most; x++) {
            int taken = x;
            Due.throwsIt(call + " of " + x, () -> it.on(garden.get(), taken), null);
        }
        int[] beyond = {Integer.MIN_VALUE, least - 2, least - 1, most + 1, most + 2, Integer.MAX_VALUE};
        for (int x : beyond) {
            refused(call + " of " + x, refusal, garden, g -> it.on(g, x));
        }
    }

    static void index(String call, Supplier<FlushGarden> garden, int least, int most, Call it) {
        range(call, IndexOutOfBoundsException.class, garden, least, most, it);
    }

    static void argument(String call, Supplier<FlushGarden> garden, int least, int most, Call it) {
        range(call, IllegalArgumentException.class, garden, least, most, it);
    }

    static void units(String call, Supplier<FlushGarden> garden, int least, int most, Call it) {
        range(call, IllegalStateException.class, garden, least, most, it);
    }

    /** Of the lots of each state (see Gardens) these are taken; to all others it cannot be done. */
    static void state(String call, Call it, int... taken) {
        for (int x = 0; x < Gardens.LOTS_OF_EACH_STATE; x++) {
            int lot = x;
            if (IntStream.of(taken).anyMatch(one -> one == lot)) {
                Due.throwsIt(call + " of the lot " + lot, () -> it.on(Gardens.ofEachState(), lot), null);
            } else {
                refused(call + " of the lot " + lot, IllegalStateException.class, Gardens::ofEachState, g -> it.on(g, lot));
            }
        }
    }

    private static void refused(String call, Class<?> refusal, Supplier<FlushGarden> garden,
            Consumer<FlushGarden> it) {
        FlushGarden g = garden.get();
        long before = g.digest();
        Due.throwsIt(call, () -> it.accept(g), refusal);
        Due.is(call + ": digest behind the refusal", g.digest(), before);
    }
}
