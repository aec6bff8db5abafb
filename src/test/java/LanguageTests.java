import java.lang.reflect.Constructor;
import java.lang.reflect.Field;
import java.lang.reflect.Method;
import java.lang.reflect.Modifier;
import java.nio.file.Files;
import java.nio.file.Path;
import java.util.Arrays;
import java.util.HashSet;
import java.util.List;
import java.util.Set;
import java.util.regex.Matcher;
import java.util.regex.Pattern;

/** What of LANGUAGE.md a program can see: the face, the words that are not allowed, sizes, where objects are made. */
public final class LanguageTests {
    private static final String FACE = "feed(int) end(int) text() fault() rule(int) one(int,int) act(int) queue(int) "
        + "alter(int,int,int) room(int) think(int) plan(int) cut(int) thinks(int) minutes(int) tram() joy(int) second() "
        + "runs(int) ahead(int,int) soon(int) best(int,int) home(int,int) swap(int) enough() luck(int,int,int) "
        + "mean(int,int) see(int,boolean) forget(int) kinds(int) sorrows(int) ask(int,int) drift(int,int,int) keep(int) "
        + "back(int) sheet(int,int,int) lay(int,int,int) read(int,int,int,int) torn() count(int)";
    private static final List<String> NO_WORDS = List.of("throw", "throws", "try", "catch", "finally", "synchronized",
        "assert", "package", "native", "volatile", "transient", "protected", "hashCode", "Exception");

    public static void main(String[] args) throws Exception {
        face();
        for (Class<?> inside : TearsQueue.class.getDeclaredClasses()) {
            classInside(inside);
        }
        source(Files.readString(Path.of("src/main/java/TearsQueue.java")));
        Checks.finish();
    }

    private static void face() throws Exception {
        Set<String> wanted = new HashSet<>(Arrays.asList(FACE.split(" ")));
        Set<String> names = new HashSet<>();
        for (Method m : TearsQueue.class.getDeclaredMethods()) {
            String types = Arrays.toString(m.getParameterTypes()).replaceAll("[\\[\\] ]", "");
            if (Modifier.isPublic(m.getModifiers())) {
                Checks.holds("not of the face: " + m, wanted.remove(m.getName() + "(" + types + ")"));
                boolean isLong = m.getName().equals("luck") || m.getName().equals("mean");
                Checks.holds("answers another type: " + m, m.getReturnType() == (isLong ? long.class : int.class));
                names.add(m.getName());
            } else {
                Checks.holds("not private: " + m, Modifier.isPrivate(m.getModifiers()));
            }
        }
        Checks.holds("wanting: " + wanted, wanted.isEmpty());
        for (Method m : TearsQueue.class.getDeclaredMethods()) {
            Checks.holds("the name of a public one: " + m,
                Modifier.isPublic(m.getModifiers()) || !names.contains(m.getName()));
        }
        for (Constructor<?> c : TearsQueue.class.getDeclaredConstructors()) {
            Checks.holds("another constructor: " + c, c.getParameterCount() == 0 && Modifier.isPublic(c.getModifiers()));
        }
        List<String> constants = List.of("BAD", "STATE", "FULL", "NONE");
        for (Field f : TearsQueue.class.getDeclaredFields()) {
            boolean isPublic = Modifier.isPublic(f.getModifiers());
            Checks.holds("visible: " + f, isPublic == constants.contains(f.getName())
                && (isPublic || Modifier.isPrivate(f.getModifiers())));
        }
        Checks.holds("not final", Modifier.isFinal(TearsQueue.class.getModifiers()));
        fields(TearsQueue.class);
    }

    private static void classInside(Class<?> inside) {
        Checks.holds("not static: " + inside, Modifier.isStatic(inside.getModifiers()));
        for (Method m : inside.getDeclaredMethods()) {
            Checks.holds("the name of a public one: " + m,
                Arrays.stream(TearsQueue.class.getMethods()).noneMatch(f -> f.getName().equals(m.getName())));
            Checks.holds("more than seven parameters: " + m, m.getParameterCount() <= 7);
        }
        fields(inside);
    }

    private static void fields(Class<?> of) {
        int own = 0;
        for (Field f : of.getDeclaredFields()) {
            if (Modifier.isStatic(f.getModifiers())) {
                Checks.holds("not final: " + f, Modifier.isFinal(f.getModifiers()));
            } else {
                own++;
            }
        }
        Checks.holds("more than twenty fields: " + of, own <= 20);
    }

    private static void source(String whole) {
        String code = whole.replaceAll("(?s)/\\*.*?\\*/", "").replaceAll("//[^\n]*", "").replaceAll("\"[^\"\n]*\"", "\"\"");
        for (String word : NO_WORDS) {
            Checks.holds("a word that is not allowed: " + word, !Pattern.compile("\\b" + word + "\\b").matcher(code).find());
        }
        Checks.holds("a lambda or a method reference", !code.contains("->") && !code.contains("::"));
        Matcher imports = Pattern.compile("import ([^;]*);").matcher(code);
        while (imports.find()) {
            Checks.holds("import " + imports.group(1), imports.group(1).equals("java.util.Arrays"));
        }
        Matcher fills = Pattern.compile("Arrays\\.(\\w+)").matcher(code);
        while (fills.find()) {
            Checks.holds("Arrays." + fills.group(1), fills.group(1).equals("fill"));
        }
        Checks.holds("more than twelve classes", code.split("\\bclass ").length - 1 <= 12);
        bodies(code.split("\n"));
    }

    /** A method's body ends with the brace that stands as deep as its head: it is short, and makes no objects. */
    private static void bodies(String[] lines) {
        Pattern head = Pattern.compile("^( {4}| {8})((?:[\\w\\[\\]]+ )*)(\\w+)\\([^;]*\\) \\{$");
        for (int i = 0; i < lines.length; i++) {
            Matcher m = head.matcher(lines[i]);
            if (m.find() && !m.group(2).isEmpty()) {
                boolean isMethod = !m.group(2).equals("public ");
                int last = i;
                while (!lines[last].equals(m.group(1) + "}")) {
                    Checks.holds("an object is made in " + m.group(3),
                        !isMethod || !lines[last].matches(".*\\bnew\\b.*"));
                    last++;
                }
                Checks.holds("a long method: " + m.group(3), last - i < 60);
            }
        }
    }
}
