import java.io.ByteArrayOutputStream;
import java.io.IOException;
import java.io.PrintStream;
import java.lang.reflect.Method;
import java.lang.reflect.Modifier;
import java.nio.file.Files;
import java.nio.file.Path;

/** README.md shows the example as it is, and what it prints, and tells of every call of the face. */
public final class ReadmeTest {
    public static void main(String[] args) throws IOException {
        Path root = Path.of(System.getProperty("root", "."));
        String page = Files.readString(root.resolve("README.md"));
        String example = Files.readString(root.resolve("src/test/java/Example.java"));
        Check.same("README.md shows Example.java", page.contains("```java\n" + example + "```\n"), true);
        String printed = printed();
        Check.same("README.md shows what Example prints: " + printed, page.contains("```text\n" + printed + "```\n"), true);
        for (Method m : BasketKeep.class.getDeclaredMethods()) {
            if (Modifier.isPublic(m.getModifiers())) {
                Check.same("README.md tells of " + m.getName(), page.contains("`" + m.getName() + "("), true);
            }
        }
        Check.same("README.md tells how to run the tests", page.contains("    .ci/run\n"), true);
        for (String test : root.resolve("src/test/java").toFile().list()) {
            if (test.endsWith("Test.java")) {
                String name = test.substring(0, test.length() - ".java".length());
                Check.same("README.md tells of " + name, page.contains("| `" + name + "`"), true);
            }
        }
        Check.end("ReadmeTest");
    }

    private static String printed() {
        PrintStream before = System.out;
        ByteArrayOutputStream bytes = new ByteArrayOutputStream();
        System.setOut(new PrintStream(bytes, true));
        Example.main(new String[0]);
        System.setOut(before);
        return bytes.toString().replace("\r\n", "\n");
    }
}
