import java.io.IOException;
import java.nio.file.Path;
import java.util.List;

/**
 * The boundary cases that the document names: each sentence that names one (too small, too large,
 * empty, full, a wrap-around, a refused call) has a test of its own, which tells the sentence.
 */
public final class BoundaryTest {
    public static void main(String[] args) throws IOException {
        Sentences sentences = run();
        sentences.lookForMissingOnes();
        for (String section : args) {
            System.out.println(section + ":" + sentences.withoutTest(section));
        }
        Due.end("BoundaryTest");
    }

    /** The sentences whose tests fail. */
    public static List<String> wrongOnes() throws IOException {
        return run().wrong();
    }

    private static Sentences run() throws IOException {
        Sentences sentences = new Sentences(Path.of("../shared/DOC.md"));
        LanguageBounds.test(sentences);
        ErrorBounds.test(sentences);
        PondBounds.test(sentences);
        HangBounds.test(sentences);
        WaysBounds.test(sentences);
        PlansBounds.test(sentences);
        return sentences;
    }
}
