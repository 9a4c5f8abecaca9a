import java.io.IOException;
import java.nio.file.DirectoryStream;
import java.nio.file.Files;
import java.nio.file.Path;
import java.util.regex.Matcher;
import java.util.regex.Pattern;

/** No sentence of the document, from its terms to its last promise, is without a test that quotes it. */
public final class QuotesTest {
    private static final Check C = new Check("QuotesTest");
    private static final Path TESTS = Path.of("src/test/java");
    private static final String TEXT = "\"(?:[^\"\\\\]|\\\\.)*\"";
    /** Texts that are joined by + are one quote. */
    private static final Pattern QUOTE = Pattern.compile(TEXT + "(?:\\s*\\+\\s*" + TEXT + ")*");
    private static final int SHORTEST = 8;

    public static void main(String[] args) throws IOException {
        String promises = promises();
        boolean[] quoted = new boolean[promises.length()];
        int files = 0;
        try (DirectoryStream<Path> all = Files.newDirectoryStream(TESTS, "*Test.java")) {
            for (Path file : all) {
                markQuotes(Files.readString(file), promises, quoted);
                files++;
            }
        }
        C.due("there are tests", files > 0, true);
        tellTheRest(promises, quoted);
        C.end();
    }

    /** What the document promises, without titles, signatures and the fences of blocks. */
    private static String promises() {
        String s = Doc.between("\n## Terms\n", "\n## Not promised\n");
        String bare = s.replaceAll("(?m)^(##|========).*$", "\n").replaceAll("(?m)^```.*$", "\n");
        return bare.replaceAll("(?m)^`[^`]*`:", "\n").replaceAll("\\s+", " ");
    }

    private static void markQuotes(String source, String promises, boolean[] quoted) {
        Matcher m = QUOTE.matcher(source);
        while (m.find()) {
            String quote = m.group().replaceAll("\"\\s*\\+\\s*\"", "").replaceAll("^\"|\"$", "").replace("\\\"", "\"");
            if (quote.length() >= SHORTEST) {
                mark(quote.replaceAll("\\s+", " "), promises, quoted);
            }
        }
    }

    private static void mark(String quote, String promises, boolean[] quoted) {
        for (int at = promises.indexOf(quote); at >= 0; at = promises.indexOf(quote, at + 1)) {
            for (int i = at; i < at + quote.length(); i++) {
                quoted[i] = true;
            }
        }
    }

    /** Each word has to stand in a quote; the signs between two sentences need not. */
    private static void tellTheRest(String promises, boolean[] quoted) {
        int from = 0;
        while (from < quoted.length) {
            int to = from;
            while (to < quoted.length && quoted[to] == quoted[from]) {
                to++;
            }
            String part = promises.substring(from, to);
            if (!quoted[from]) {
                C.due("what no test quotes", part.replaceAll("[^A-Za-z0-9]", "").isEmpty() ? "" : part, "");
            }
            from = to;
        }
        C.due("the document has sentences", quoted.length > 0, true);
    }
}
