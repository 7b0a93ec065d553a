import java.io.IOException;
import java.nio.file.Files;
import java.nio.file.Path;
import java.util.ArrayList;
import java.util.HashMap;
import java.util.HashSet;
import java.util.LinkedHashMap;
import java.util.List;
import java.util.Map;
import java.util.Set;

/** The document's sentences, and the tests that are each of one of them. */
final class Sentences {
    /** The sections of the document by their headings, each in one line. */
    private final Map<String, StringBuilder> sections = new LinkedHashMap<>();

    /** The lines of the document that tell an exception, with their headings ahead. */
    private final List<String> refusals = new ArrayList<>();

    private final Map<String, Set<String>> tested = new HashMap<>();
    private final List<String> wrong = new ArrayList<>();

    Sentences(Path document) throws IOException {
        String heading = "";
        for (String line : Files.readAllLines(document)) {
            if (line.startsWith("## ") || line.startsWith("== ")) {
                heading = line.substring(3).replaceAll(":.*", "");
            } else if (line.startsWith("Throws ")) {
                refusals.add(heading + ": " + plain(line));
            }
            sections.computeIfAbsent(heading, h -> new StringBuilder()).append(' ').append(plain(line));
        }
    }

    private static String plain(String text) {
        return text.replace("`", "").replaceAll("\\s+", " ").trim();
    }

    /** Runs a test of the sentence, which has to stand in this section word by word. */
    void of(String section, String sentence, Runnable test) {
        String name = section + ": " + plain(sentence);
        Due.head("[" + name + "] ");
        int before = Due.wrong();
        StringBuilder text = sections.get(section);
        Due.same("the document has the sentence", text != null && text.indexOf(plain(sentence)) >= 0, true);
        tested.computeIfAbsent(section, s -> new HashSet<>()).add(plain(sentence));
        try {
            test.run();
        } catch (RuntimeException | StackOverflowError e) {
            Due.tell("a call threw " + e);
        }
        if (Due.wrong() > before) {
            wrong.add(name);
        }
        Due.head("");
    }

    /** Each exception that the document tells has a test, and each promise has one. */
    void lookForMissingOnes() {
        for (String refusal : refusals) {
            int behindHeading = refusal.indexOf(": ");
            Set<String> its = tested.getOrDefault(refusal.substring(0, behindHeading), Set.of());
            Due.same("has a test: " + refusal, its.contains(refusal.substring(behindHeading + 2)), true);
        }
        for (int promise = 1; promise <= 41; promise++) {
            Due.same("has a test: promise " + promise, tested.containsKey("Promise " + promise), true);
        }
    }

    /** What stands in a section besides the sentences that have a test. */
    String withoutTest(String section) {
        String left = String.valueOf(sections.get(section));
        for (String sentence : tested.getOrDefault(section, Set.of())) {
            left = left.replace(sentence, "#");
        }
        return left;
    }

    List<String> wrong() {
        return wrong;
    }
}
