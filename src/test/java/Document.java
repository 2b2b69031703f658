import java.io.IOException;
import java.nio.file.Files;
import java.nio.file.Path;
import java.util.ArrayList;
import java.util.List;

/** The document's text in one line, so that tests may quote it. */
final class Document {
    static final int PROMISES = 33;

    private final String text;

    Document() throws IOException {
        text = Files.readString(Path.of("../shared/DOC.md")).replaceAll("\\s+", " ");
    }

    private String between(String from, String to) {
        int start = text.indexOf(from);
        int end = text.indexOf(to, start);
        if (start < 0 || end < 0) {
            throw new IllegalStateException("the document has no part from '" + from + "' to '" + to + "'");
        }
        return text.substring(start, end);
    }

    String promise(int number) {
        return between("## Promise " + number + ":", number < PROMISES ? "## Promise " + (number + 1) + ":" : "## Not promised");
    }

    /** The rules that all promises share. */
    String terms() {
        return between("# FlushGarden", "## Promise 1:");
    }

    /** The sentences of the rules, parted at ";" and ":" too, from that on whole numbers to the two on exceptions. */
    List<String> sentences() {
        List<String> sentences = new ArrayList<>();
        String rules = between("All numbers are whole", "Ahead of the calls").replaceAll("== \\d\\. [A-Z][a-z ]+|```text|```", " ");
        for (String sentence : rules.split("(?<=\\.)\\)? +(?=[A-Z(])|(?<=[;:]) ")) {
            if (!sentence.isBlank()) {
                sentences.add(sentence.strip().replaceAll("[;:]$", ""));
            }
        }
        return sentences;
    }

    /** What each "Throws" of a promise names, one case each. */
    List<String> refusals(int number) {
        List<String> refusals = new ArrayList<>();
        for (String line : promise(number).split("(?=Throws `)")) {
            if (line.startsWith("Throws `")) {
                String cases = line.substring(line.indexOf(" if ") + 4).strip();
                refusals.addAll(List.of(cases.split(", or ")));
            }
        }
        return refusals;
    }
}
