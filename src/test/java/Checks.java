/** Counts the answers of a test that are not as due; ends the test with 1 if there was one. */
final class Checks {
    private static int wrong = 0;
    private static int asked = 0;

    private Checks() {
    }

    static int asked() {
        return asked;
    }

    static void due(int promise, String call, long got, long want) {
        asked++;
        if (got != want) {
            wrong++;
            System.out.println("promise " + promise + ": " + call + " answered " + got + ", due is " + want);
        }
    }

    static void holds(String what, boolean true1) {
        asked++;
        if (!true1) {
            wrong++;
            System.out.println(what);
        }
    }

    /** Feeds a text letter by letter. */
    static void feedAll(TearsQueue x, String text) {
        for (int i = 0; i < text.length(); i++) {
            x.feed(text.charAt(i));
        }
    }

    /** A new object to which a text was told that must be taken. */
    static TearsQueue told(String text) {
        TearsQueue x = new TearsQueue();
        feedAll(x, text);
        int lines = x.text();
        holds("the text is not taken: " + text, lines >= 0);
        return x;
    }

    static void finish() {
        System.out.println(asked + " answers asked, " + wrong + " not as due");
        if (wrong != 0) {
            System.exit(1);
        }
    }
}
