import java.io.IOException;
import java.nio.file.Files;
import java.nio.file.Path;
import java.util.List;
import java.util.regex.Matcher;
import java.util.regex.Pattern;

/** What of LANGUAGE.md a look at the source can show. */
public final class SourceTest {
    private static final String[] FORBIDDEN = {
        "->", "::", "Exact\\b", "\\bcatch\\b", "\\bfinally\\b", "\\bsynchronized\\b", "\\bassert\\b", "\\btry\\b",
        "\\bprotected\\b", "\\bpackage\\b", "\\binstanceof\\b", "\\bdouble\\b", "\\bfloat\\b", "static \\{",
        "\\bSystem\\.(?!arraycopy)", "\\bRandom\\b", "\\bThread\\b", "\\[\\]\\[\\]\\[\\]", "\\bString\\.", "getMessage",
    };

    private SourceTest() { }

    public static void main(String[] args) throws IOException {
        Check check = new Check();
        Path path = Path.of("src/main/java/DreamGuard.java");
        String source = Files.readString(path);
        String code = source.replaceAll("(?s)/\\*.*?\\*/", "").replaceAll("//[^\n]*", "");
        for (String word : FORBIDDEN) {
            check.fails("the source has " + word, Pattern.compile(word).matcher(code).find());
        }
        Matcher imports = Pattern.compile("import ([^;]*);").matcher(code);
        while (imports.find()) {
            check.holds("import " + imports.group(1), imports.group(1).equals("java.util.NoSuchElementException"));
        }
        Matcher thrown = Pattern.compile("throw new (\\w+)").matcher(code);
        while (thrown.find()) {
            check.holds("throw new " + thrown.group(1), thrown.group(1).equals("NoSuchElementException"));
        }
        check.holds("plain signs alone", source.chars().allMatch(c -> c == '\n' || c >= 32 && c < 127));
        methodsAreShort(check, Files.readAllLines(path));
        check.finish();
    }

    private static void methodsAreShort(Check check, List<String> lines) {
        int from = -1;
        for (int k = 0; k < lines.size(); k++) {
            String line = lines.get(k);
            boolean opens = line.matches("( {4}| {8})\\S.*\\) (throws \\w+ )?\\{") && !line.contains(" class ");
            if (opens) {
                from = k;
            } else if (from >= 0 && line.matches("( {4}| {8})\\}")) {
                check.holds("the method in line " + (from + 1) + " is short", k - from <= 60);
                from = -1;
            }
        }
    }
}
