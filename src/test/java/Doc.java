import java.io.IOException;
import java.io.UncheckedIOException;
import java.nio.file.Files;
import java.nio.file.Path;

/** The document, so that a test can't name a sentence that does not stand there. */
final class Doc {
    private static final Path FILE = Path.of("../shared/DOC.md");
    private static final String TEXT = read();

    private Doc() {
    }

    private static String read() {
        try {
            return Files.readString(FILE);
        } catch (IOException e) {
            throw new UncheckedIOException(e);
        }
    }

    private static String flat(String s) {
        return s.replaceAll("\\s+", " ").trim();
    }

    /** True if the sentence stands under this heading: "Promise 2", "6 RUNNING" and their like. */
    static boolean says(String heading, String sentence) {
        int from = startOf(heading);
        if (from < 0) {
            return false;
        }
        int nextTitle = TEXT.indexOf("\n## ", from + 1);
        int nextSection = TEXT.indexOf("\n========", from + 1);
        int to = nextTitle < 0 ? TEXT.length() : nextTitle;
        to = nextSection < 0 ? to : Math.min(to, nextSection);
        return flat(TEXT.substring(from, to)).contains(flat(sentence));
    }

    /** What stands between two lines of the document. */
    static String between(String first, String last) {
        int from = TEXT.indexOf(first);
        int to = from < 0 ? -1 : TEXT.indexOf(last, from);
        return to < 0 ? "" : TEXT.substring(from + first.length(), to);
    }

    /** The lines of the block that stands under a title, without its fences. */
    static String block(String title) {
        int from = startOf(title);
        int open = from < 0 ? -1 : TEXT.indexOf("\n```", from);
        int first = open < 0 ? -1 : TEXT.indexOf('\n', open + 1);
        int close = first < 0 ? -1 : TEXT.indexOf("\n```", first);
        return close < 0 ? "" : TEXT.substring(first + 1, close);
    }

    private static int startOf(String heading) {
        if (heading.startsWith("Promise ")) {
            return TEXT.indexOf("\n## " + heading + ":");
        }
        int section = TEXT.indexOf("\n======== " + heading + "\n");
        return section < 0 ? TEXT.indexOf("\n## " + heading + "\n") : section;
    }
}
