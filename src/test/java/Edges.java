import java.io.IOException;
import java.nio.file.Files;
import java.nio.file.Path;
import java.util.Arrays;
import java.util.regex.Matcher;
import java.util.regex.Pattern;

/**
 * Answers looked at sentence by sentence of the document: each test quotes the words that it holds the class
 * to, and in the end no words of the document may be left without a quote.
 */
final class Edges {
    static final int NONE = DreamGuard.NONE;
    static final int HIDDEN = DreamGuard.HIDDEN;
    /** No STATUS is counted. */
    static final int UNCOUNTED = -1;

    private static final Path DOCUMENT = Path.of("..", "shared", "DOC.md");
    /** A promise's number, name and face: what it says comes behind them. */
    private static final Pattern HEADING = Pattern.compile("## (Promise [0-9]+: [^`]*`[^`]*`: |Terms )");
    /** What joins two quotes is shorter than this. */
    private static final int JOINT = 24;

    private final Check check = new Check();
    private final String document;
    private final boolean[] quoted;
    private String sentence = "";
    private int answers = 1;

    Edges() throws IOException {
        String text = Files.readString(DOCUMENT);
        document = text.replaceAll("```\\w*", " ").replaceAll("\\s+", " ");
        quoted = new boolean[document.length()];
    }

    /** What is looked at from here on is what these words of the terms say. */
    void sentence(String words) {
        quote("## Terms", "## Promise 1:", words);
    }

    /** What is looked at from here on is what these words of the promise say. */
    void promise(int number, String words) {
        quote("## Promise " + number + ":", number == 41 ? "## Not promised" : "## Promise " + (number + 1) + ":", words);
    }

    private void quote(String from, String to, String words) {
        check.holds("answers are looked at under \"" + sentence + "\"", answers > 0);
        int begin = document.indexOf(from);
        int at = document.indexOf(words, begin);
        boolean found = begin >= 0 && at >= 0 && at + words.length() <= document.indexOf(to);
        check.holds("the document says \"" + words + "\" behind " + from, found);
        for (int k = 0; found && k < words.length(); k++) {
            quoted[at + k] = true;
        }
        sentence = words;
        answers = 0;
    }

    void same(String call, long got, long due) {
        answers++;
        check.same("\"" + sentence + "\": " + call, got, due);
    }

    void holds(String call, boolean got) {
        same(call, got ? 1 : 0, 1);
    }

    void fails(String call, boolean got) {
        same(call, got ? 1 : 0, 0);
    }

    void row(String call, int[] got, int... due) {
        same(call + ", how many", got.length, due.length);
        for (int k = 0; k < got.length && k < due.length; k++) {
            same(call + ", the one with number " + k, got[k], due[k]);
        }
    }

    /** The same five for status(0) to status(4). */
    void status(DreamGuard x, int... due) {
        for (int what = 0; what < 5; what++) {
            same("status(" + what + ")", x.status(what), due[what]);
        }
    }

    /** Words of the document that no test has quoted are a fault of the tests. */
    void finish() {
        Matcher headings = HEADING.matcher(document);
        while (headings.find()) {
            Arrays.fill(quoted, headings.start(), headings.end(), true);
        }
        int to = document.indexOf("## Not promised");
        int from = document.indexOf("## Terms");
        for (int at = from; at < to; at++) {
            if (quoted[at]) {
                from = at + 1;
            } else if (at + 1 == to || quoted[at + 1]) {
                check.holds("a test quotes \"" + document.substring(from, at + 1) + "\"", at + 1 - from < JOINT);
            }
        }
        check.holds("answers are looked at under \"" + sentence + "\"", answers > 0);
        check.finish();
    }
}
