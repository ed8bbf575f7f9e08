import java.io.ByteArrayOutputStream;
import java.io.IOException;
import java.io.PrintStream;
import java.net.URL;
import java.net.URLClassLoader;
import java.nio.file.Files;
import java.nio.file.Path;
import java.util.regex.Matcher;
import java.util.regex.Pattern;
import javax.tools.ToolProvider;

/** README.md says how to use the class: its example prints what it says, and no call of the face is left out. */
public final class ReadmeTest {
    private static final Path README = Path.of("README.md");
    private static final Path DOCUMENT = Path.of("..", "shared", "DOC.md");

    private final Check check = new Check();
    private final String readme;

    private ReadmeTest(String readme) {
        this.readme = readme;
    }

    public static void main(String[] args) throws IOException, ReflectiveOperationException {
        ReadmeTest test = new ReadmeTest(Files.readString(README));
        test.example();
        test.calls(Files.readString(DOCUMENT));
        test.testsAreNamed();
        test.check.finish();
    }

    private static String block(String text, String sort) {
        Matcher block = Pattern.compile("(?s)```" + sort + "\n(.*?)```").matcher(text);
        return block.find() ? block.group(1) : "";
    }

    private void example() throws IOException, ReflectiveOperationException {
        Path made = Files.createTempDirectory("readme");
        Path source = made.resolve("Example.java");
        Files.writeString(source, block(readme, "java"));
        int failed = ToolProvider.getSystemJavaCompiler().run(null, null, null,
            "-cp", System.getProperty("java.class.path"), "-d", made.toString(), source.toString());
        check.same("compiling the example", failed, 0);
        String printed = failed == 0 ? run(made) : "";
        check.holds("the example prints\n" + printed, printed.equals(block(readme, "text")));
        Files.deleteIfExists(made.resolve("Example.class"));
        Files.delete(source);
        Files.delete(made);
    }

    private static String run(Path classes) throws IOException, ReflectiveOperationException {
        PrintStream screen = System.out;
        ByteArrayOutputStream printed = new ByteArrayOutputStream();
        try (URLClassLoader loader = new URLClassLoader(new URL[] {classes.toUri().toURL()})) {
            System.setOut(new PrintStream(printed));
            loader.loadClass("Example").getMethod("main", String[].class).invoke(null, (Object) new String[0]);
        } finally {
            System.setOut(screen);
        }
        return printed.toString().replace(System.lineSeparator(), "\n");
    }

    /** Each method of the document's face stands in a table, with its parameters' names. */
    private void calls(String document) {
        Matcher face = Pattern.compile("public (?:int|boolean) (\\w+)\\(([^)]*)\\)").matcher(block(document, "java"));
        int found = 0;
        while (face.find()) {
            found++;
            String call = face.group(1) + "(" + face.group(2).replaceAll("(int|long|boolean) ", "") + ")";
            boolean stands = Pattern.compile("(?m)^\\|[^|]*`" + Pattern.quote(call) + "`[^|]*\\|").matcher(readme).find();
            check.holds("a row of README.md for " + call, stands);
        }
        check.same("calls of the face", found, 40);
    }

    private void testsAreNamed() throws IOException {
        try (var files = Files.list(Path.of("src/test/java"))) {
            for (Path file : files.sorted().toList()) {
                String name = file.getFileName().toString().replace(".java", "");
                if (name.endsWith("Test")) {
                    check.holds("README.md names " + name, readme.contains("`" + name + "`"));
                }
            }
        }
    }
}
