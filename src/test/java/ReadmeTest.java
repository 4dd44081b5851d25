import java.io.IOException;
import java.lang.reflect.Method;
import java.lang.reflect.Modifier;
import java.nio.file.DirectoryStream;
import java.nio.file.Files;
import java.nio.file.Path;

/** README.md: its example answers as it says, and it names each call of the class and each test. */
public final class ReadmeTest {
    private static final Path README = Path.of("README.md");
    private static final Path TESTS = Path.of("src/test/java");

    private final String page;
    private final String example;

    private ReadmeTest(String page) {
        this.page = page;
        int begin = page.indexOf("```java\n");
        example = begin < 0 ? "" : page.substring(begin, page.indexOf("```\n", begin + 1));
    }

    /** The example has the call, with this answer behind it. */
    private void shows(String call, long got) {
        boolean isShown = false;
        for (String line : example.split("\n")) isShown |= line.matches("\\Qx." + call + ";\\E +// " + got + ": .*");
        Check.due("the example shows " + call + " and " + got, isShown ? 1 : 0, 1);
    }

    private void names(String what) {
        Check.due("README.md names " + what, page.contains("`" + what + "`") ? 1 : 0, 1);
    }

    private void example() {
        NineWindows x = new NineWindows();
        shows("window(0, 0, 0, 2, 1)", x.window(0, 0, 0, 2, 1));
        shows("window(4, 5, 1, 0, 2)", x.window(4, 5, 1, 0, 2));
        String text = "wet 4 f>0;stair 3";
        Check.due("the example has the text", example.contains("\"" + text + "\"") ? 1 : 0, 1);
        shows("house()", Check.house(x, text));
        shows("storm(2, 0)", x.storm(2, 0));
        shows("best(-1)", x.best(-1));
        shows("best(0)", x.best(0));
        shows("shut(1)", x.shut(1));
        shows("told(1)", x.told(1));
        shows("window(7, 0, 0, 0, 1)", x.window(7, 0, 0, 0, 1));
    }

    private void tests() throws IOException {
        try (DirectoryStream<Path> files = Files.newDirectoryStream(TESTS, "*.java")) {
            for (Path file : files) {
                if (Files.readString(file).contains("public static void main")) {
                    names(file.getFileName().toString().replace(".java", ""));
                }
            }
        }
    }

    public static void main(String[] args) throws IOException {
        ReadmeTest t = new ReadmeTest(Files.readString(README));
        t.example();
        for (Method m : NineWindows.class.getDeclaredMethods()) {
            if (Modifier.isPublic(m.getModifiers())) t.names(m.getName());
        }
        t.tests();
        Check.end("ReadmeTest");
    }
}
