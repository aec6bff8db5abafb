/** What the Terms say of THE TAPE, its TOKENS, lines and FAULTS, and its edges. */
public final class TapeEdges {
    private static final int STATE = Sentences.STATE, FULL = Sentences.FULL, NONE = Sentences.NONE;

    public static void main(String[] args) throws ReflectiveOperationException {
        Sentences.run(TapeEdges.class);
    }

    private static void due(String call, long got, long want) {
        Sentences.due(call, got, want);
    }

    private static void text(String text, int answer, int fault) {
        Sentences.text(text, answer, fault);
    }

    private static String upTo160(String text) {
        StringBuilder all = new StringBuilder(text);
        while (all.length() < 160) {
            all.append(' ');
        }
        return all.toString();
    }

    @Says("THE TAPE has 160 bytes, places from 0.")
    static void places() {
        TearsQueue x = new TearsQueue();
        Checks.feedAll(x, upTo160("dry;"));
        due("count(2)", x.count(2), 160);
        due("feed(32), a 161st", x.feed(32), FULL);
        due("text()", x.text(), 1);
        text("?", -10, 1);
        text(upTo160("dry;").substring(0, 159) + "?", -169, 1);
        text(upTo160("dry"), -170, 2);
    }

    @Says("TOKENS, each as long as may be,")
    static void tokens() {
        text("plainplain;", -10, 2);
        text("plan55;", -14, 3);
        text("plan555;", -14, 1);
        text("plan5 5;", 1, 0);
        text("plain12;", 1, 0);
        text("roomthink 2;", -10, 2);
        text("room2think2;", -15, 2);
    }

    @Says("blanks (32) between:")
    static void blanks() {
        text("  plain   7  ;  ", 1, 0);
        text("plain7;soft2;", 2, 0);
        text(" ", 0, 0);
        text("pla in;", -10, 2);
        text("plain 1 2;", -18, 2);
        text("plain\t7;", -15, 1);
        text("plain\n;", -15, 1);
        text("plain;\r", -16, 1);
        text("plain" + (char) 31 + ";", -15, 1);
        text("plain" + (char) 33 + ";", -15, 1);
        text((char) 0 + "plain;", -10, 1);
    }

    @Says("NAMES (a .. z),")
    static void names() {
        text("az;", -10, 2);
        text("zzzzzzzzzzzzzzzzzzzz;", -10, 2);
        text("`;", -10, 1);
        text("{;", -10, 1);
        text("Plain;", -10, 1);
        text("PLAIN;", -10, 1);
        text("plainA;", -15, 1);
        text("plain{;", -15, 1);
        text("plain`;", -15, 1);
        text("plain_;", -15, 1);
    }

    @Says("NUMBERS (1 or 2 figures),")
    static void numbers() {
        text("plain 0;", 1, 0);
        text("plain 9;", 1, 0);
        text("plain 00;", 1, 0);
        text("plain 09;", 1, 0);
        text("plain 10;", 1, 0);
        text("plain 39;", 1, 0);
        text("plain 009;", -16, 1);
        text("plain /;", -16, 1);
        text("plain :;", -16, 1);
        text("plain -1;", -16, 1);
        text("plain +1;", -16, 1);
        TearsQueue x = Checks.told("dry 07;dry 10;dry 39;dry 8;");
        int[] sorrow = {7, 10, 39, 8};
        for (int p = 0; p < 4; p++) {
            due("one(" + p + ", 1)", x.one(p, 1), sorrow[p]);
        }
    }

    @Says("one ; .")
    static void semicolons() {
        text(";", -10, 2);
        text("plain;;", -16, 2);
        text("plain 7 ; ;", -20, 2);
        text("plain : ;", -16, 1);
        text("plain , ;", -16, 1);
    }

    @Says("text: { line }")
    static void lines() {
        text("", 0, 0);
        text("plan;", 1, 0);
        text("plan;dry;think 1;dry;room 1;dry;dry;dry;", 8, 0);
    }

    @Says("line: K [ N ] ;")
    static void people() {
        text("plain;", 1, 0);
        text("plain 3;", 1, 0);
        text("plain 3 4;", -18, 2);
        text("plain 3 soft;", -18, 2);
        text("plain soft;", -16, 2);
        text("3 plain;", -10, 2);
    }

    @Says("| room N ;")
    static void roomLine() {
        text("room 3;", 1, 0);
        text("room;", -14, 2);
        text("room 3 3;", -17, 2);
        text("room dry;", -15, 2);
    }

    @Says("| think N ;")
    static void thinkLine() {
        text("think 3;", 1, 0);
        text("think;", -15, 2);
        text("think 3 3;", -18, 2);
        text("think dry;", -16, 2);
    }

    @Says("| plan { N } ;")
    static void planLine() {
        text("plan;", 1, 0);
        text("plan 5;", 1, 0);
        text("plan 5 6 5 6 5 6 5 6;", 1, 0);
        text("plan 5 room 1;", -17, 2);
        text("plan room 1;", -15, 2);
        due("rule(4)", Checks.told("plan;").rule(4), 0);
        due("rule(4)", Checks.told("plan 5 6 5 6 5 6 5 6;").rule(4), 8);
    }

    @Says("K: plain | soft | sham | dry")
    static void kindNames() {
        String[] none = {"plai", "plainn", "lain", "xlain", "plaix", "sof", "softs", "xoft", "soff", "sha", "shame", "xham",
            "shan", "dr", "dryy", "ryd", "xry", "drx"};
        for (String name : none) {
            text(name + ";", -10, 2);
        }
        text("dry;sham;soft;plain;", 4, 0);
    }

    @Says("K: a ONE more of that KIND: SORROW, if it is told.")
    static void oneMore() {
        TearsQueue x = Checks.told("sham 5;room 1;sham;soft 0;");
        due("rule(0)", x.rule(0), 3);
        due("one(0, 1)", x.one(0, 1), 5);
        due("one(1, 1)", x.one(1, 1), 0);
        due("one(2, 1)", x.one(2, 1), 0);
        due("one(2, 0)", x.one(2, 0), 1);
    }

    @Says("room: ROOM.")
    static void roomTold() {
        due("rule(2)", Checks.told("room 1;").rule(2), 1);
        due("rule(2)", Checks.told("room 05;").rule(2), 5);
        due("rule(2), it is not told", Checks.told("think 1;").rule(2), 2);
        text("room 0;", -15, 3);
        text("room 6;", -15, 3);
        text("room 99;", -15, 3);
    }

    @Says("think: THINK.")
    static void thinkTold() {
        due("rule(3)", Checks.told("think 1;").rule(3), 1);
        due("rule(3)", Checks.told("think 09;").rule(3), 9);
        due("rule(3), it is not told", Checks.told("room 1;").rule(3), 4);
        text("think 0;", -16, 3);
        text("think 10;", -16, 3);
        text("think 99;", -16, 3);
    }

    @Says("plan: THE PLAN: ACTS (0 to 6).")
    static void planTold() {
        TearsQueue x = Checks.told("plan 0 4 05 6;dry;dry;dry;dry;dry;");
        int[] acts = {0, 4, 5, 6};
        for (int i = 0; i < 4; i++) {
            due("act(" + i + ")", x.act(i), acts[i]);
        }
        text("plan 7;", -15, 3);
        text("plan 6 10;", -17, 3);
        text("plan 6 99;", -17, 3);
    }

    @Says("FAULTS, the first met as it is read (a TOKEN is read when the one before has been taken):")
    static void theFirstMet() {
        text("room 9?", -15, 3);
        text("plain 41?", -16, 3);
        text("plan 7?", -15, 3);
        text("plan 7 999;", -15, 3);
        text("room 2;room?", -17, 4);
        text("room room 2;", -15, 2);
        text("plain soft?", -16, 2);
        text("dog?", -10, 2);
        text("dry;dry;dry;dry;dry;dry?", -30, 5);
        text("plan 5 5 5 5 5 5 5 5 5?", -31, 5);
        text("plan 5 5 5 5 5 5 5 5?", -30, 1);
        text("plain 7?", -17, 1);
        text("plain?", -15, 1);
        text("room?", -14, 1);
        text("room 2?", -16, 1);
        text("plan 5?", -16, 1);
        text("plain;?", -16, 1);
        text("plan 0;?", -17, 1);
    }

    @Says("1 no TOKEN,")
    static void noToken() {
        for (int c = 0; c < 128; c++) {
            boolean name = c >= 'a' && c <= 'z';
            boolean number = c >= '0' && c <= '9';
            boolean token = name || number || c == ';';
            String text = String.valueOf((char) c);
            if (c == ' ') {
                text(text, 0, 0);
                text("dry " + text + ";", 1, 0);
            } else {
                text(text, -10, token ? 2 : 1);
                text("dry;dry " + text + text + text, c == ';' ? -19 : -18, number || !token ? 1 : 2);
            }
        }
    }

    @Says("a NUMBER that is too long (its first byte).")
    static void tooLong() {
        text("plain 100;", -16, 1);
        text("plain   1234;", -18, 1);
        text("room 001;", -15, 1);
        text("plan 5 005;", -17, 1);
        text("999", -10, 1);
        text("plan;999;", -15, 1);
        text("plan 5 5 5 5 5 5 5 5 555;", -31, 1);
        text("plan " + "4294967301".repeat(15) + ";", -15, 1);
    }

    @Says("2 a TOKEN that can not stand there")
    static void cannotStand() {
        text("7;", -10, 2);
        text(";", -10, 2);
        text("room ;", -15, 2);
        text("plan plan;", -15, 2);
        text("plain 7 8;", -18, 2);
        text("plain;7;", -16, 2);
        text("think think;", -16, 2);
    }

    @Says("(a NAME that begins no line;")
    static void beginsNoLine() {
        text("dog;", -10, 2);
        text("plain;dog;", -16, 2);
        text("p;", -10, 2);
        text("xoom 1;", -10, 2);
        text("xhink 1;", -10, 2);
        text("xlan;", -10, 2);
        text("rooms 1;", -10, 2);
        text("roo 1;", -10, 2);
        text("thinks 1;", -10, 2);
        text("plans;", -10, 2);
        text("pla;", -10, 2);
    }

    @Says("or the end: the length).")
    static void theEnd() {
        text("plain", -15, 2);
        text("plain   ", -18, 2);
        text("plain 7", -17, 2);
        text("room", -14, 2);
        text("room 2", -16, 2);
        text("think", -15, 2);
        text("think 2 ", -18, 2);
        text("plan", -14, 2);
        text("plan 5", -16, 2);
        text("plan 5 5 5 5 5 5 5 5", -30, 2);
        text("dry;soft", -18, 2);
    }

    @Says("3 a NUMBER out of its bounds.")
    static void outOfBounds() {
        text("soft;plain 41;", -21, 3);
        text("soft 40;plain 99;", -24, 3);
        text("room 6;", -15, 3);
        text("room 0;", -15, 3);
        text("think 10;", -16, 3);
        text("think 00;", -16, 3);
        text("plan 5 7;", -17, 3);
        text("plan 5 50;", -17, 3);
    }

    @Says("4 room, think, plan for the second time (its NAME).")
    static void secondTime() {
        text("room 2;room 3;", -17, 4);
        text("think 2;think 3;", -18, 4);
        text("plan;plan;", -15, 4);
        text("plan 5;dry;plan 5;", -21, 4);
        text("room 1;think 1;plan;", 3, 0);
        text("room 1;think 1;plan;room 9;", -30, 4);
    }

    @Says("5 the 6th ONE (its NAME);")
    static void the6th() {
        text("dry;dry;dry;dry;dry;dry;", -30, 5);
        text("dry;dry;dry;dry;dry;  plain 41;", -32, 5);
        text("dry;dry;dry;dry;dry;room 1;sham", -37, 5);
        text("dry;dry;dry;dry;dry;room 1;", 6, 0);
    }

    @Says("a 9th ACT (it, whether it is one or not).")
    static void the9th() {
        text("plan 5 5 5 5 5 5 5 5 6;", -31, 5);
        text("plan 5 5 5 5 5 5 5 5 7;", -31, 5);
        text("plan 5 5 5 5 5 5 5 5 99;", -31, 5);
        text("plan 5 5 5 5 5 5 5 5 0;", -31, 5);
        text("plan 5 5 5 5 5 5 5 5 5", -31, 5);
        text("plan 5 5 5 5 5 5 5 5;", 1, 0);
        text("plan 5 5 5 5 5 5 5 7 5;", -29, 3);
    }

    @Says("Behind all (the length): 6 a ONE that there is not.")
    static void noSuchOne() {
        text("plan 0;", -17, 6);
        text("plan 0;  ", -19, 6);
        text("plan 4;dry;dry;dry;dry;", -33, 6);
        text("plan 4;dry;dry;dry;dry;dry;", 6, 0);
        text("plan 0;dry;", 2, 0);
        text("dry;plan 1;", -21, 6);
        text("plan 4;room 9;", -22, 3);
        text("plan 4;dog", -17, 2);
    }

    @Says("A text that is taken tells all, in place of what there was;")
    static void tellsAll() {
        TearsQueue x = Busy.made();
        x.end(0);
        due("text() of nothing", x.text(), 0);
        int[] rules = {0, 0, 2, 4, 0, 0, 0};
        for (int what = 0; what < 7; what++) {
            due("rule(" + what + ")", x.rule(what), rules[what]);
        }
        due("one(0, 0)", x.one(0, 0), Sentences.BAD);
        due("count(4)", x.count(4), 0);
        due("second(), nobody is GONE any more", x.second(), 0);
        TearsQueue y = Busy.made();
        due("text() of 'dry 3;'", y.text(), 1);
        due("one(0, 1)", y.one(0, 1), 3);
        due("one(0, 2)", y.one(0, 2), NONE);
        due("one(1, 0)", y.one(1, 0), Sentences.BAD);
        due("rule(1)", y.rule(1), 0);
        Checks.feedAll(y, "dry;dry;dry;dry;dry;");
        y.text();
        due("one(4, 2), he never WEPT", y.one(4, 2), NONE);
        due("one(4, 4), he is not GONE", y.one(4, 4), 0);
    }

    @Says("nothing is SEEN;")
    static void nothingIsSeen() {
        TearsQueue x = Busy.made();
        due("count(0)", x.count(0), 2);
        x.text();
        due("count(0)", x.count(0), 0);
        due("sorrows(0)", x.sorrows(0), (1 << 21) - 1);
        due("see(0, true)", x.see(0, true), 1);
        x.feed('?');
        x.text();
        due("count(0), the text was not taken", x.count(0), 1);
    }

    @Says("IMAGES are gone.")
    static void imagesAreGone() {
        TearsQueue x = Busy.made();
        x.keep(1);
        due("count(1)", x.count(1), 2);
        x.text();
        due("count(1)", x.count(1), 0);
        due("back(0)", x.back(0), STATE);
        due("back(1)", x.back(1), STATE);
        due("keep(0)", x.keep(0), 0);
        x.feed('?');
        x.text();
        due("back(0), the text was not taken", x.back(0), 0);
    }
}
