import java.io.IOException;
import java.nio.file.Files;
import java.nio.file.Path;
import java.util.List;
import java.util.regex.Matcher;
import java.util.regex.Pattern;

/** What of ../shared/LANGUAGE.md can be seen in the text of the program. */
public final class SourceTest {
    private static final int MOST_LINES_OF_A_METHOD = 60;
    private static final int MOST_CLASSES = 12;

    /** Words and signs that the rules leave out; patterns. */
    private static final List<String> LEFT_OUT = List.of("->", "::", "\\bsynchronized\\b", "\\bassert\\b",
            "\\bfinally\\b", "\\bcatch\\b", "\\btry\\b", "\\bstatic \\{", "\\bObject\\b", "\\bSystem\\.(?!arraycopy)",
            "\\bordinal\\(", "\\bname\\(", "\\bhashCode\\b", "\\bequals\\b", "\\btoString\\b", "\\bprotected\\b",
            "\\bvar\\b", "\\bMap\\b", "\\bSet\\b", "\\bstream\\b", "\\bformat\\b", "\\bExact\\b");

    public static void main(String[] args) throws IOException {
        Path file = Path.of("src/main/java/HexPond.java");
        List<String> lines = Files.readAllLines(file);
        String code = withoutCommentsAndTexts(String.join("\n", lines));
        for (String pattern : LEFT_OUT) {
            Matcher matcher = Pattern.compile(pattern).matcher(code);
            Due.same("the program has " + pattern, matcher.find(), false);
        }
        Due.same("imports", count(code, "(?m)^import "), 1);
        Due.same("the import of Arrays", count(code, "(?m)^import java\\.util\\.Arrays;$"), 1);
        Due.same("a package line", count(code, "(?m)^package "), 0);
        Due.same("public members", count(code, "(?m)^    public "), 41);
        Due.same("public ones in all", count(code, "\\bpublic "), 42);
        Due.same("so many classes at most", count(code, "\\b(class|enum|interface|record) [A-Z]") <= MOST_CLASSES, true);
        methodsAreShort(lines);
        Due.end("SourceTest");
    }

    private static String withoutCommentsAndTexts(String text) {
        return text.replaceAll("(?s)/\\*.*?\\*/", "").replaceAll("//[^\n]*", "").replaceAll("\"[^\"\n]*\"", "\"\"");
    }

    private static int count(String text, String pattern) {
        Matcher matcher = Pattern.compile(pattern).matcher(text);
        int found = 0;
        while (matcher.find()) {
            found++;
        }
        return found;
    }

    private static void methodsAreShort(List<String> lines) {
        for (int margin = 4; margin <= 8; margin += 4) {
            Pattern first = Pattern.compile(" {" + margin + "}[^ ].*\\{");
            String last = " ".repeat(margin) + "}";
            for (int at = 0; at < lines.size(); at++) {
                String line = lines.get(at);
                boolean isType = line.contains(" class ") || line.contains(" enum ");
                if (!isType && first.matcher(line).matches()) {
                    int end = at;
                    while (end < lines.size() && !lines.get(end).equals(last)) {
                        end++;
                    }
                    Due.same("short enough: " + line.trim(), end - at < MOST_LINES_OF_A_METHOD, true);
                }
            }
        }
    }
}
