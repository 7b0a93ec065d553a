import java.io.ByteArrayOutputStream;
import java.io.IOException;
import java.io.PrintStream;
import java.lang.reflect.Method;
import java.lang.reflect.Modifier;
import java.nio.file.Files;
import java.nio.file.Path;

/** What README.md says of the program: its example, what that prints, and the names of the calls. */
public final class ReadmeTest {
    public static void main(String[] args) throws IOException {
        String readme = Files.readString(Path.of("README.md"));
        String example = Files.readString(Path.of("src/test/java/ReadmeExample.java"));
        Due.same("README.md shows ReadmeExample.java", readme.contains("\n```java\n" + example + "```\n"), true);
        String printed = printedByTheExample();
        Due.same("README.md shows what the example prints:\n" + printed,
                readme.contains("\n```text\n" + printed + "```\n"), true);
        for (Method method : HexPond.class.getDeclaredMethods()) {
            if (Modifier.isPublic(method.getModifiers())) {
                Due.same("README.md names " + method.getName(), readme.contains("`" + method.getName() + "`"), true);
            }
        }
        Due.end("ReadmeTest");
    }

    private static String printedByTheExample() {
        PrintStream before = System.out;
        ByteArrayOutputStream printed = new ByteArrayOutputStream();
        System.setOut(new PrintStream(printed, true));
        ReadmeExample.main(new String[0]);
        System.setOut(before);
        return printed.toString().replace("\r\n", "\n");
    }
}
