import java.io.IOException;
import java.lang.reflect.Method;
import java.util.ArrayList;
import java.util.List;
import java.util.Map;
import java.util.TreeMap;

/** Whether each sentence of the rules, and each case that a promise refuses, is quoted by a test of its boundary. */
public final class CoverTest {
    private static final List<Class<?>> TESTS = List.of(SectionBoundsTest.class, LotBoundsTest.class, MadeBoundsTest.class,
        MarketBoundsTest.class, RefusedBoundsTest.class);

    private static Map<Integer, List<String>> quotesByPromise() {
        Map<Integer, List<String>> quotes = new TreeMap<>();
        for (Class<?> tests : TESTS) {
            for (Map.Entry<String, Method> test : Bounds.testsOf(tests).entrySet()) {
                quotes.computeIfAbsent(Bounds.promiseOf(test.getKey()), any -> new ArrayList<>())
                    .addAll(List.of(test.getValue().getAnnotation(Says.class).value()));
            }
        }
        return quotes;
    }

    private static boolean quoted(List<String> quotes, String sentence) {
        return quotes.stream().anyMatch(quote -> quote.contains(sentence) || sentence.contains(quote));
    }

    public static void main(String[] args) throws IOException {
        Document document = new Document();
        Map<Integer, List<String>> quotes = quotesByPromise();
        List<String> all = new ArrayList<>();
        for (int promise = 1; promise <= Document.PROMISES; promise++) {
            List<String> ofPromise = quotes.getOrDefault(promise, List.of());
            all.addAll(ofPromise);
            Due.is("promise " + promise + " has a test of its boundaries", ofPromise.isEmpty() ? 0 : 1, 1);
            for (String refusal : document.refusals(promise)) {
                Due.is("promise " + promise + " quotes '" + refusal + "'", ofPromise.contains(refusal) ? 1 : 0, 1);
            }
        }
        for (String sentence : document.sentences()) {
            Due.is("quoted: '" + sentence + "'", quoted(all, sentence) ? 1 : 0, 1);
        }
        Due.end();
    }
}
