import java.io.IOException;
import java.lang.reflect.Method;
import java.nio.file.Files;
import java.nio.file.Path;
import java.util.ArrayList;
import java.util.List;

/** Every word of the Terms and of the promises is quoted by a test that is for it, and every quote is true. */
public final class DocumentTests {
    private static final Path DOCUMENT = Path.of("..", "shared", "DOC.md");
    private static final int PROMISES = 41;
    private static final Class<?>[] TESTS = {
        TermsEdges.class, TapeEdges.class, TextEdges.class, EveningEdges.class, PlanEdges.class, ThoughtEdges.class,
        SheetEdges.class,
    };

    public static void main(String[] args) throws IOException {
        if (!Files.exists(DOCUMENT)) {
            System.out.println("there is no " + DOCUMENT + " to be compared");
            return;
        }
        String document = plain(Files.readString(DOCUMENT));
        List<Says> quotes = new ArrayList<>();
        for (Class<?> tests : TESTS) {
            for (Method test : Sentences.testsOf(tests)) {
                quotes.add(test.getAnnotation(Says.class));
            }
        }
        covers(Says.OPENING, between(document, "An object is used", "## The public face"), quotes);
        covers(Says.TERMS, between(document, "Answers: BAD", "Ahead of the calls `feed`"), quotes);
        for (int promise = 1; promise <= PROMISES; promise++) {
            String rest = between(document, "## Promise " + promise + ":",
                    promise == PROMISES ? "## Not promised" : "## Promise " + (promise + 1) + ":");
            // The heading and the face ahead of the words are told by their own tests.
            covers(promise, rest.substring(rest.indexOf("`: ") + 3), quotes);
        }
        Checks.finish();
    }

    private static String plain(String text) {
        return text.replace("```text", " ").replace("```", " ").replaceAll("======== \\d ", " ").replaceAll("\\s+", " ");
    }

    private static String between(String document, String from, String to) {
        int start = document.indexOf(from);
        int end = document.indexOf(to, start);
        Checks.holds("the document has no '" + from + "' ahead of '" + to + "'", start >= 0 && end > start);
        return document.substring(start, end);
    }

    private static void covers(int promise, String words, List<Says> quotes) {
        boolean[] quoted = new boolean[words.length()];
        for (Says says : quotes) {
            if (says.of() == promise) {
                Checks.holds("promise " + promise + " does not say '" + says.value() + "'", mark(words, says.value(), quoted));
            }
        }
        for (int i = 0; i < words.length(); i++) {
            boolean isWord = Character.isLetterOrDigit(words.charAt(i));
            if (isWord && !quoted[i]) {
                int end = i;
                while (end < words.length() && !quoted[end]) {
                    end++;
                }
                Checks.holds("promise " + promise + ": no test is for '" + words.substring(i, end) + "'", false);
                i = end;
            }
        }
    }

    private static boolean mark(String words, String quote, boolean[] quoted) {
        int at = words.indexOf(quote);
        boolean found = at >= 0;
        for (; at >= 0; at = words.indexOf(quote, at + 1)) {
            java.util.Arrays.fill(quoted, at, at + quote.length(), true);
        }
        return found;
    }
}
