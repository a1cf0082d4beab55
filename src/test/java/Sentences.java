import java.io.IOException;
import java.nio.file.Files;
import java.nio.file.Path;
import java.util.ArrayList;
import java.util.List;
import java.util.Map;
import java.util.TreeMap;

/**
 * Runs a test for a sentence of the document. The sentence's words are looked up in the document,
 * so that no test is for words that do not stand there, and no boundary that stands there is
 * without a test.
 */
final class Sentences {
    private static final Path DOCUMENT = Path.of("../shared/DOC.md");

    private final Map<String, List<String>> paragraphs = new TreeMap<>();
    private final Map<String, List<String>> tested = new TreeMap<>();
    private int count = 0;

    interface Test {
        void run();
    }

    Sentences() throws IOException {
        if (!Files.exists(DOCUMENT)) {
            System.out.println(DOCUMENT + " is not there: the sentences' words are not looked up");
            return;
        }
        String part = "";
        for (String line : Files.readAllLines(DOCUMENT)) {
            if (line.matches("## .*|[1-7]\\. [A-Z][a-z].*")) {
                part = partOf(line);
                paragraphs.put(part, new ArrayList<>(List.of("")));
            } else if (!part.isEmpty()) {
                addLine(paragraphs.get(part), line.strip());
            }
        }
    }

    private static String partOf(String heading) {
        if (heading.startsWith("## Promise ")) {
            return "promise " + heading.replaceAll("## Promise ([0-9]+):.*", "$1");
        }
        return heading.startsWith("## ") ? "" : "section " + heading.charAt(0);
    }

    private static void addLine(List<String> of, String line) {
        if (line.isEmpty() || line.startsWith("- ")) {
            of.add(line);
            return;
        }
        String before = of.get(of.size() - 1);
        of.set(of.size() - 1, before.isEmpty() ? line : before + " " + line);
    }

    void promise(int number, String words, Test test) {
        holds("promise " + number, words, test);
    }

    void section(int number, String words, Test test) {
        holds("section " + number, words, test);
    }

    /** Words that need no test, for they only say what stands behind them. */
    void announces(int section, String words) {
        tested.computeIfAbsent("section " + section, p -> new ArrayList<>()).add(words);
    }

    private void holds(String part, String words, Test test) {
        Due.setSentence(part + ", \"" + words + "\": ");
        count++;
        int asked = Due.asked();
        if (!paragraphs.isEmpty() && paragraphs.getOrDefault(part, List.of()).stream()
                .noneMatch(paragraph -> paragraph.contains(words))) {
            Due.fault("does not stand in the document");
        }
        try {
            test.run();
        } catch (RuntimeException e) {
            Due.fault("threw " + e + " at " + e.getStackTrace()[0]);
        }
        if (Due.asked() == asked) {
            Due.fault("asks nothing");
        }
        tested.computeIfAbsent(part, p -> new ArrayList<>()).add(words);
    }

    /** What stands in the document as a boundary, and has no test, is a fault. */
    void checkNoneIsWithoutTest() {
        for (Map.Entry<String, List<String>> part : paragraphs.entrySet()) {
            List<String> words = tested.getOrDefault(part.getKey(), List.of());
            for (String paragraph : part.getValue()) {
                for (String clause : clausesWithBounds(part.getKey(), paragraph)) {
                    if (words.stream().noneMatch(w -> clause.contains(w) || w.contains(clause))) {
                        Due.setSentence(part.getKey() + ", \"" + clause + "\": ");
                        Due.fault("has no test");
                    }
                }
            }
        }
        System.out.println(count + " tests of sentences");
    }

    private static List<String> clausesWithBounds(String part, String paragraph) {
        if (part.startsWith("section")) {
            return paragraph.isEmpty() ? List.of() : List.of(paragraph.split("(?<=[.;]) "));
        }
        boolean bounds = paragraph.startsWith("Throws") || paragraph.startsWith("Returns")
                || paragraph.startsWith("- ") && paragraph.matches(".*: .*([0-9]|RIGHT|BOTTOM).*");
        return bounds ? List.of(paragraph.replaceAll("^- |\\.$", "")) : List.of();
    }
}
