import java.io.IOException;
import java.lang.reflect.Method;
import java.lang.reflect.Modifier;
import java.nio.file.DirectoryStream;
import java.nio.file.Files;
import java.nio.file.Path;
import java.util.regex.Matcher;
import java.util.regex.Pattern;

/** What README.md shows is what the class answers, and no call and no test of the project is missing there. */
public final class ReadmeTests {
    private static final Pattern TEXT = Pattern.compile("^String text = \"([^\"]*)\";$");
    private static final Pattern FEED = Pattern.compile("^for \\(.*\\) q\\.feed\\(text\\.charAt\\(i\\)\\);$");
    private static final Pattern CALL = Pattern.compile("^q\\.(\\w+)\\(([-\\d, ]*)\\); +// (-?\\d+)\\b.*");

    private TearsQueue q;
    private String text = "";
    private int answers = 0;

    public static void main(String[] args) throws IOException, ReflectiveOperationException {
        String page = Files.readString(Path.of("README.md"));
        Matcher block = Pattern.compile("(?s)```java\n(.*?)```").matcher(page);
        int blocks = 0;
        while (block.find()) {
            blocks++;
            ReadmeTests shown = new ReadmeTests();
            for (String line : block.group(1).split("\n")) {
                shown.play(line);
            }
            Checks.holds("a block without an answer", shown.answers > 0);
        }
        Checks.holds("README.md shows nothing", blocks > 0);
        namesAllCalls(page);
        namesAllTests(page);
        Checks.finish();
    }

    private void play(String line) throws ReflectiveOperationException {
        Matcher told = TEXT.matcher(line);
        Matcher call = CALL.matcher(line);
        if (line.equals("TearsQueue q = new TearsQueue();")) {
            q = new TearsQueue();
        } else if (told.matches()) {
            text = told.group(1);
        } else if (FEED.matcher(line).matches()) {
            Checks.feedAll(q, text);
        } else if (call.matches()) {
            answers++;
            Checks.holds("README.md, not so: " + line,
                    answer(call.group(1), call.group(2)) == Long.parseLong(call.group(3)));
        } else {
            Checks.holds("README.md, not understood: " + line, false);
        }
    }

    private long answer(String name, String list) throws ReflectiveOperationException {
        String[] words = list.isEmpty() ? new String[0] : list.split(", ");
        Object[] with = new Object[words.length];
        Class<?>[] types = new Class<?>[words.length];
        for (int i = 0; i < words.length; i++) {
            with[i] = Integer.valueOf(words[i]);
            types[i] = int.class;
        }
        return ((Number) TearsQueue.class.getMethod(name, types).invoke(q, with)).longValue();
    }

    private static void namesAllCalls(String page) {
        for (Method m : TearsQueue.class.getDeclaredMethods()) {
            if (Modifier.isPublic(m.getModifiers())) {
                Checks.holds("README.md has no call " + m.getName(), page.contains("`" + m.getName() + "`"));
            }
        }
    }

    private static void namesAllTests(String page) throws IOException {
        try (DirectoryStream<Path> files = Files.newDirectoryStream(Path.of("src/test/java"), "*.java")) {
            for (Path file : files) {
                String name = file.getFileName().toString().replace(".java", "");
                boolean isTest = Files.readString(file).contains("static void main(");
                Checks.holds("README.md has no test " + name, !isTest || page.contains("`" + name + "`"));
            }
        }
    }
}
