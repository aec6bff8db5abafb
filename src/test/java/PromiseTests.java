/** For each promise: ordinary inputs, the edges that the document names, wrong inputs. */
public final class PromiseTests {
    private static final int BAD = -1, STATE = -2, FULL = -3, NONE = -4;
    /** No call takes these for a number of any kind. */
    private static final int[] WRONG = {-1, Integer.MIN_VALUE, Integer.MAX_VALUE};
    private static final String BUSY = "plain 7;soft 2;sham 3;dry;plain 9;think 3;plan 0 1 5 6 4 2 2 6;";

    public static void main(String[] args) {
        newObject();
        feed();
        end();
        textsTaken();
        textsRefused();
        textTellsAll();
        refusedTextChangesNothing();
        rule();
        one();
        act();
        queue();
        alter();
        roomAndThink();
        planAndCut();
        thinks();
        minutes();
        tram();
        joy();
        second();
        runs();
        ahead();
        soon();
        best();
        home();
        swap();
        enough();
        luck();
        mean();
        seeAndForget();
        kinds();
        sorrows();
        ask();
        drift();
        images();
        sheet();
        lay();
        read();
        readPutsBack();
        torn();
        count();
        full();
        Checks.finish();
    }

    private static void due(int promise, String call, long got, long want) {
        Checks.due(promise, call, got, want);
    }

    private static void newObject() {
        TearsQueue x = new TearsQueue();
        int[] rules = {0, 0, 2, 4, 0, 0, 0};
        for (int i = 0; i < rules.length; i++) {
            due(1, "rule(" + i + ")", x.rule(i), rules[i]);
        }
        int[] counts = {0, 0, 0, NONE, 0, 0};
        for (int i = 0; i < counts.length; i++) {
            due(1, "count(" + i + ")", x.count(i), counts[i]);
        }
        for (int k = 0; k < 4; k++) {
            due(1, "lay", x.lay(k, 0, 0), -11);
        }
        due(1, "queue(0)", x.queue(0), NONE);
        due(1, "act(0)", x.act(0), BAD);
        due(1, "one(0, 0)", x.one(0, 0), BAD);
        due(1, "fault()", x.fault(), 0);
        due(1, "torn()", x.torn(), 0);
        due(1, "back(0)", x.back(0), STATE);
        due(1, "back(1)", x.back(1), STATE);
    }

    private static void feed() {
        TearsQueue x = new TearsQueue();
        due(2, "feed(-1)", x.feed(-1), BAD);
        due(2, "feed(128)", x.feed(128), BAD);
        due(2, "feed(0)", x.feed(0), 1);
        due(2, "feed(127)", x.feed(127), 2);
        for (int i = 3; i <= 160; i++) {
            due(2, "feed(32)", x.feed(32), i);
        }
        due(2, "feed(32) beyond 160", x.feed(32), FULL);
        due(2, "feed(-1), BAD ahead of FULL", x.feed(-1), BAD);
        due(2, "feed(128), BAD ahead of FULL", x.feed(128), BAD);
        due(2, "count(2)", x.count(2), 160);
    }

    private static void end() {
        TearsQueue x = new TearsQueue();
        due(3, "end(0)", x.end(0), 0);
        due(3, "end(1)", x.end(1), BAD);
        Checks.feedAll(x, "plain;xx");
        due(3, "end(9)", x.end(9), BAD);
        for (int n : WRONG) {
            due(3, "end", x.end(n), BAD);
        }
        due(3, "end(8)", x.end(8), 8);
        due(3, "end(6)", x.end(6), 8);
        due(3, "count(2)", x.count(2), 6);
        Checks.feedAll(x, "dry;");
        due(3, "text()", x.text(), 2);
        due(3, "end(0), the tape is empty", x.end(0), 0);
    }

    private static void text(String text, int answer, int fault) {
        TearsQueue x = new TearsQueue();
        Checks.feedAll(x, text);
        due(4, "text() of '" + text + "'", x.text(), answer);
        due(5, "fault() of '" + text + "'", x.fault(), fault);
        due(4, "count(2), the tape is empty", x.count(2), 0);
    }

    private static void textsTaken() {
        text("", 0, 0);
        text("   ", 0, 0);
        text("plain7;soft;", 2, 0);
        text("  plain   7  ;  ", 1, 0);
        text("plain 07;", 1, 0);
        text("plain 40;soft 0;sham;dry 1;", 4, 0);
        text("room 1;", 1, 0);
        text("room5;think 9;plan;", 3, 0);
        text("think 1;", 1, 0);
        text("plan 5 6 5 6 5 6 5 6;", 1, 0);
        text("plan 0 4;soft;soft;soft;soft;soft;", 6, 0);
    }

    private static void textsRefused() {
        text("Plain;", -10, 1);
        text("plain 007;", -16, 1);
        text("plain 7 ?", -18, 1);
        text("plain 1\t;", -17, 1);
        text("plain 7", -17, 2);
        text("plain", -15, 2);
        text("plain 7  ", -19, 2);
        text("plain room 1;", -16, 2);
        text("plain 1 1;", -18, 2);
        text(";", -10, 2);
        text("7;", -10, 2);
        text("plains;", -10, 2);
        text("pla in;", -10, 2);
        text("xlain;", -10, 2);
        text("az;", -10, 2);
        text("za{;", -10, 2);
        text("dog ?", -10, 2);
        text("soft;dog", -15, 2);
        text("room;", -14, 2);
        text("room 1 1;", -17, 2);
        text("think x;", -16, 2);
        text("plan 5 dry;", -17, 2);
        text("plan 5", -16, 2);
        text("plain 41;", -16, 3);
        text("plain 99 ?", -16, 3);
        text("room 0;", -15, 3);
        text("room 6 ?;", -15, 3);
        text("think 0;", -16, 3);
        text("think 10;", -16, 3);
        text("plan 6 7;", -17, 3);
        text("room 2;room ?", -17, 4);
        text("think 2;think;", -18, 4);
        text("plan;plan 0;", -15, 4);
        text("soft;soft;soft;soft;soft;soft ?", -35, 5);
        text("plan 5 5 5 5 5 5 5 5 5;", -31, 5);
        text("plan 5 5 5 5 5 5 5 5 99;", -31, 5);
        text("plan 5 5 5 5 5 5 5 5 999;", -31, 1);
        text("plan 5 5 5 5 5 5 5 5 x;", -31, 2);
        text("plan 0;", -17, 6);
        text("soft;plan 0 1; ", -25, 6);
        text("plan 4;soft;soft;soft;soft;", -37, 6);
        text("plan 0;?", -17, 1);
    }

    private static void textTellsAll() {
        TearsQueue x = Checks.told(BUSY);
        x.minutes(5);
        x.tram();
        x.see(0, true);
        x.keep(0);
        x.keep(1);
        x.sheet(0, 0, 3);
        Checks.feedAll(x, "dry 3;");
        due(4, "text()", x.text(), 1);
        int[] rules = {1, 0, 2, 4, 0, 1, 3};
        for (int i = 0; i < rules.length; i++) {
            due(4, "rule(" + i + ")", x.rule(i), rules[i]);
        }
        due(4, "count(0), nothing is SEEN", x.count(0), 0);
        due(4, "count(1), IMAGES are gone", x.count(1), 0);
        due(4, "count(3), SHEETS stay", x.count(3), 3);
        due(4, "back(0)", x.back(0), STATE);
        due(4, "one(0, 2)", x.one(0, 2), NONE);
        due(4, "one(0, 4)", x.one(0, 4), 0);
        Checks.feedAll(x, "room 5;think 9;plan 5;");
        x.text();
        Checks.feedAll(x, "soft;");
        due(4, "text()", x.text(), 1);
        due(4, "rule(2), 2 at first", x.rule(2), 2);
        due(4, "rule(3), 4 at first", x.rule(3), 4);
        due(4, "rule(4)", x.rule(4), 0);
        bytesCutOffAreNotRead(x);
    }

    private static void bytesCutOffAreNotRead(TearsQueue x) {
        String[] texts = {"plain 12;", "plain;", "plain;   ", "plain;"};
        int[] kept = {7, 3, 6, 0};
        int[] answers = {-17, -10, 1, 0};
        for (int i = 0; i < texts.length; i++) {
            Checks.feedAll(x, texts[i]);
            x.end(kept[i]);
            due(4, "text() of the first " + kept[i] + " of '" + texts[i] + "'", x.text(), answers[i]);
        }
    }

    private static void refusedTextChangesNothing() {
        TearsQueue x = Checks.told(BUSY);
        x.minutes(1);
        x.see(0, true);
        x.keep(0);
        Checks.feedAll(x, "dry;room 4;plan 5;dog;");
        due(4, "text()", x.text(), -10 - 18);
        due(5, "fault()", x.fault(), 2);
        int[] rules = {5, 1, 2, 3, 8, 31, 6 + 1 + 2 + 8};
        for (int i = 0; i < rules.length; i++) {
            due(4, "rule(" + i + ")", x.rule(i), rules[i]);
        }
        due(4, "count(0)", x.count(0), 1);
        due(4, "count(1)", x.count(1), 1);
        due(4, "count(2)", x.count(2), 0);
        due(5, "text() of nothing", x.text(), 0);
        due(5, "fault()", x.fault(), 0);
    }

    private static void rule() {
        TearsQueue x = Checks.told("soft 4;dry 9;plain 3;room 1;think 5;plan 0 5;");
        x.minutes(1);
        x.tram();
        int[] rules = {3, 1, 1, 5, 2, 6, 10};
        for (int i = 0; i < rules.length; i++) {
            due(6, "rule(" + i + ")", x.rule(i), rules[i]);
        }
        due(6, "rule(7)", x.rule(7), BAD);
        for (int w : WRONG) {
            due(6, "rule", x.rule(w), BAD);
        }
    }

    private static void one() {
        TearsQueue x = Checks.told("plain 1;soft 2;sham 3;dry 4;room 1;");
        int[] brims = {10, 5, 4, 20};
        for (int p = 0; p < 4; p++) {
            due(7, "one(p, 0)", x.one(p, 0), p);
            due(7, "one(p, 1)", x.one(p, 1), p + 1);
            due(7, "one(p, 2)", x.one(p, 2), NONE);
            due(7, "one(p, 3)", x.one(p, 3), brims[p]);
            due(7, "one(p, 4)", x.one(p, 4), 0);
        }
        x.minutes(1);
        x.thinks(1);
        due(7, "one(1, 2)", x.one(1, 2), 1);
        x.tram();
        due(7, "one(1, 4)", x.one(1, 4), 1);
        due(7, "one(4, 0)", x.one(4, 0), BAD);
        due(7, "one(0, 5)", x.one(0, 5), BAD);
        for (int w : WRONG) {
            due(7, "one(w, 0)", x.one(w, 0), BAD);
            due(7, "one(0, w)", x.one(0, w), BAD);
        }
    }

    private static void act() {
        TearsQueue x = Checks.told("soft;soft;plan 1 5 6;");
        due(8, "act(0)", x.act(0), 1);
        due(8, "act(1)", x.act(1), 5);
        due(8, "act(2)", x.act(2), 6);
        due(8, "act(3)", x.act(3), BAD);
        for (int i : WRONG) {
            due(8, "act", x.act(i), BAD);
        }
    }

    private static void queueIs(TearsQueue x, int... order) {
        for (int i = 0; i < 5; i++) {
            due(9, "queue(" + i + ")", x.queue(i), i < order.length ? order[i] : NONE);
        }
    }

    private static void queue() {
        TearsQueue x = Checks.told("soft 4;sham 3;soft 4;sham;plain;");
        queueIs(x, 0, 1, 2, 4, 3);
        due(15, "thinks(2)", x.thinks(2), 7);
        queueIs(x, 0, 1, 2, 3, 4);
        x.minutes(2);
        queueIs(x, 0, 2, 4, 1, 3);
        x.alter(4, 1, 9);
        due(15, "thinks(4)", x.thinks(4), 16);
        queueIs(x, 4, 0, 2, 3, 1);
        x.tram();
        queueIs(x, 2, 3, 1);
        TearsQueue shams = Checks.told("sham;sham 1;dry;");
        shams.thinks(1);
        queueIs(shams, 0, 2, 1);
        shams.minutes(2);
        queueIs(shams, 2, 0, 1);
        due(9, "queue(5)", x.queue(5), BAD);
        for (int i : WRONG) {
            due(9, "queue", x.queue(i), BAD);
        }
    }

    private static void alter() {
        TearsQueue x = Checks.told("plain 3;dry;room 1;");
        due(10, "alter(0, 0, 3)", x.alter(0, 0, 3), 0);
        due(10, "one(0, 3)", x.one(0, 3), 20);
        due(10, "alter(0, 0, 4)", x.alter(0, 0, 4), BAD);
        due(10, "alter(0, 1, 40)", x.alter(0, 1, 40), 3);
        due(10, "alter(0, 1, 41)", x.alter(0, 1, 41), BAD);
        due(10, "alter(0, 2, 1)", x.alter(0, 2, 1), BAD);
        due(10, "alter(2, 0, 1)", x.alter(2, 0, 1), BAD);
        for (int w : WRONG) {
            due(10, "alter(w, 0, 0)", x.alter(w, 0, 0), BAD);
            due(10, "alter(0, w, 0)", x.alter(0, w, 0), BAD);
            due(10, "alter(0, 0, w)", x.alter(0, 0, w), BAD);
            due(10, "alter(0, 1, w)", x.alter(0, 1, w), BAD);
        }
        due(10, "one(0, 0)", x.one(0, 0), 3);
        due(10, "one(0, 1)", x.one(0, 1), 40);
        due(10, "nobody wept by it", x.count(4), 0);
        x.tram();
        due(10, "alter(0, 1, 0) of one who is GONE", x.alter(0, 1, 0), 40);
    }

    private static void roomAndThink() {
        TearsQueue x = new TearsQueue();
        due(11, "room(5)", x.room(5), 2);
        due(11, "room(1)", x.room(1), 5);
        due(11, "room(0)", x.room(0), BAD);
        due(11, "room(6)", x.room(6), BAD);
        due(11, "rule(2)", x.rule(2), 1);
        due(12, "think(9)", x.think(9), 4);
        due(12, "think(1)", x.think(1), 9);
        due(12, "think(0)", x.think(0), BAD);
        due(12, "think(10)", x.think(10), BAD);
        due(12, "rule(3)", x.rule(3), 1);
        for (int w : WRONG) {
            due(11, "room", x.room(w), BAD);
            due(12, "think", x.think(w), BAD);
        }
    }

    private static void planAndCut() {
        TearsQueue x = Checks.told("plain;plain;");
        due(13, "plan(0)", x.plan(0), 1);
        due(13, "plan(1)", x.plan(1), 2);
        due(13, "plan(2)", x.plan(2), BAD);
        due(13, "plan(4)", x.plan(4), BAD);
        due(13, "plan(7)", x.plan(7), BAD);
        due(13, "plan(5)", x.plan(5), 3);
        due(13, "plan(6)", x.plan(6), 4);
        due(14, "cut(5)", x.cut(5), BAD);
        due(14, "cut(4)", x.cut(4), 4);
        due(14, "cut(1)", x.cut(1), 4);
        due(14, "act(0)", x.act(0), 0);
        due(14, "act(1)", x.act(1), BAD);
        for (int i = 2; i <= 8; i++) {
            due(13, "plan(5)", x.plan(5), i);
        }
        due(13, "plan(5), a 9th", x.plan(5), FULL);
        due(13, "plan(3), BAD ahead of FULL", x.plan(3), BAD);
        for (int w : WRONG) {
            due(13, "plan", x.plan(w), BAD);
            due(14, "cut", x.cut(w), BAD);
        }
        due(14, "cut(0)", x.cut(0), 8);
        due(14, "rule(4)", x.rule(4), 0);
    }

    private static void thinks() {
        TearsQueue x = Checks.told("plain 8;soft 1;plain 5;room 1;");
        due(15, "thinks(2)", x.thinks(2), 0);
        due(15, "one(2, 1)", x.one(2, 1), 9);
        // 1 weeps: 0 has 10, 2 has 11, both weep; 1 does not weep again.
        due(15, "thinks(1)", x.thinks(1), 7);
        due(15, "one(0, 1)", x.one(0, 1), 0);
        due(15, "one(1, 1)", x.one(1, 1), 4);
        due(15, "one(2, 1)", x.one(2, 1), 0);
        due(15, "tram()", x.tram(), 1);
        due(15, "thinks(0)", x.thinks(0), STATE);
        due(15, "thinks(3)", x.thinks(3), BAD);
        for (int w : WRONG) {
            due(15, "thinks", x.thinks(w), BAD);
        }
        overTheGone();
        whoIsBrimfulWeepsByAnyThinking();
    }

    /** Who is GONE is no neighbour: the nearest who WAITS is set off. */
    private static void overTheGone() {
        TearsQueue x = Checks.told("plain 3;soft 1;plain 9;room 1;think 9;");
        due(15, "thinks(1)", x.thinks(1), 6);
        due(15, "one(0, 1)", x.one(0, 1), 5);
        due(15, "one(1, 1)", x.one(1, 1), 2);
        due(15, "tram()", x.tram(), 2);
        due(15, "thinks(2)", x.thinks(2), 0);
        due(15, "thinks(2)", x.thinks(2), 4);
        due(15, "one(0, 1)", x.one(0, 1), 7);
        due(15, "one(1, 1)", x.one(1, 1), 2);
    }

    private static void whoIsBrimfulWeepsByAnyThinking() {
        TearsQueue x = Checks.told("plain;plain;plain;plain 10;");
        due(15, "thinks(0)", x.thinks(0), 8);
        due(15, "one(0, 1)", x.one(0, 1), 4);
        due(15, "one(2, 1)", x.one(2, 1), 2);
    }

    private static void minutes() {
        TearsQueue x = Checks.told("dry 10;dry 3;dry 1;room 1;");
        due(16, "minutes(0)", x.minutes(0), 14);
        due(16, "minutes(2)", x.minutes(2), 9);
        due(16, "rule(1)", x.rule(1), 2);
        due(16, "minutes(61)", x.minutes(61), BAD);
        for (int w : WRONG) {
            due(16, "minutes", x.minutes(w), BAD);
        }
        due(16, "rule(1)", x.rule(1), 2);
        x.tram();
        due(16, "minutes(1)", x.minutes(1), 0);
        due(16, "one(0, 1), who is GONE does not dry", x.one(0, 1), 8);
        for (int i = 0; i < 17; i++) {
            due(16, "minutes(60)", x.minutes(60), 0);
        }
        due(16, "rule(1), 999 at most", x.rule(1), 999);
        x.alter(1, 1, 5);
        due(16, "minutes(1), dries all the same", x.minutes(1), 4);
    }

    private static void tram() {
        TearsQueue x = Checks.told("plain;soft 4;plain;");
        x.thinks(1);
        due(17, "tram()", x.tram(), 3);
        due(17, "rule(5)", x.rule(5), 4);
        due(17, "tram()", x.tram(), 4);
        due(17, "tram()", x.tram(), 0);
        due(17, "rule(1)", x.rule(1), 0);
    }

    private static void joy() {
        TearsQueue x = Checks.told("soft 4;soft 4;room 1;");
        due(18, "thinks(1)", x.thinks(1), 3);
        due(18, "joy(0)", x.joy(0), 0);
        due(18, "joy(1)", x.joy(1), 2);
        due(18, "one(1, 1)", x.one(1, 1), 0);
        due(18, "one(1, 2)", x.one(1, 2), NONE);
        x.tram();
        due(18, "joy(0)", x.joy(0), STATE);
        due(18, "joy(2)", x.joy(2), BAD);
        for (int w : WRONG) {
            due(18, "joy", x.joy(w), BAD);
        }
    }

    private static void second() {
        TearsQueue x = Checks.told("soft 4;plain 6;dry 5;");
        due(19, "second()", x.second(), 0);
        x.minutes(1);
        x.thinks(0);
        x.tram();
        x.minutes(3);
        due(19, "second()", x.second(), 2);
        due(19, "rule(5)", x.rule(5), 7);
        due(19, "one(0, 1)", x.one(0, 1), 0);
        due(19, "one(0, 2)", x.one(0, 2), 1);
        due(19, "one(1, 1)", x.one(1, 1), 7);
        due(19, "one(2, 1)", x.one(2, 1), 1);
    }

    private static void runs() {
        TearsQueue x = Checks.told("plain 6;plain 6;soft 1;room 1;plan 0 6 0 5 1 0;");
        // 0 weeps (1: 8), goes; passed over; dries (1: 7, 2: 0); 1 weeps (2: 2); passed over.
        int[] wants = {1, 3, 2, 2, 2};
        for (int w = 0; w < 5; w++) {
            due(20, "runs(" + w + ")", x.runs(w), wants[w]);
        }
        due(20, "runs(5)", x.runs(5), BAD);
        for (int w : WRONG) {
            due(20, "runs", x.runs(w), BAD);
        }
        due(20, "rule(5), nothing is done", x.rule(5), 7);
        due(20, "rule(6)", x.rule(6), 13);
        x.room(2);
        x.tram();
        due(20, "runs(0), with those who were GONE", x.runs(0), 7);
        due(20, "runs(1)", x.runs(1), 0);
        due(20, "runs(3)", x.runs(3), 0);
        x.cut(0);
        due(20, "runs(0)", x.runs(0), 3);
        due(20, "runs(3)", x.runs(3), NONE);
    }

    private static void ahead() {
        TearsQueue x = Checks.told("plain 6;plain 6;soft 1;room 1;plan 0 6 0 5 1 0;");
        int[] sorrow = {0, 0, 2};
        int[] wept = {0, 1, NONE};
        for (int p = 0; p < 3; p++) {
            due(21, "ahead(p, 0)", x.ahead(p, 0), sorrow[p]);
            due(21, "ahead(p, 1)", x.ahead(p, 1), wept[p]);
        }
        due(21, "ahead(3, 0)", x.ahead(3, 0), BAD);
        due(21, "ahead(0, 2)", x.ahead(0, 2), BAD);
        for (int w : WRONG) {
            due(21, "ahead(w, 0)", x.ahead(w, 0), BAD);
            due(21, "ahead(0, w)", x.ahead(0, w), BAD);
        }
        due(21, "one(0, 2), nothing is done", x.one(0, 2), NONE);
    }

    private static void soon() {
        TearsQueue x = Checks.told("dry;dry;think 2;room 1;");
        due(22, "soon(0)", x.soon(0), 0);
        due(22, "soon(1), 18 at most", x.soon(1), NONE);
        x.think(3);
        due(22, "soon(1)", x.soon(1), 7);
        x.think(2);
        x.alter(1, 1, 2);
        due(22, "soon(1), the 9th", x.soon(1), 9);
        due(22, "rule(6), nothing is done", x.rule(6), 2);
        due(22, "soon(2)", x.soon(2), BAD);
        for (int w : WRONG) {
            due(22, "soon", x.soon(w), BAD);
        }
        x.tram();
        due(22, "soon(0), who is GONE", x.soon(0), NONE);
        due(22, "soon(1)", x.soon(1), 0);
    }

    private static void bestIs(TearsQueue x, int people, int often, int... row) {
        int n = row.length;
        due(23, "best(n, 0)", x.best(n, 0), people);
        due(23, "best(n, 1)", x.best(n, 1), often);
        for (int i = 0; i < 4; i++) {
            due(23, "best(" + n + ", " + (10 + i) + ")", x.best(n, 10 + i), i < n ? row[i] : NONE);
        }
    }

    private static void best() {
        TearsQueue x = Checks.told("plain 6;plain 6;");
        bestIs(x, 0, 0);
        bestIs(x, 1, 1, 0);
        bestIs(x, 2, 2, 0, 1);
        bestIs(x, 2, 2, 0, 0, 1);
        bestIs(x, 1, 1, 0);
        bestIs(new TearsQueue(), 0, 0, 5, 5, 5, 5);
        // The sham weeps by each thinking; the soft one by the second.
        bestIs(Checks.told("soft;sham 2;"), 2, 5, 0, 0, 1, 1);
        TearsQueue gone = Checks.told("soft 4;plain 6;room 1;");
        gone.thinks(0);
        gone.tram();
        bestIs(gone, 1, 1, 0, 1);
        due(23, "best(5, 0)", x.best(5, 0), BAD);
        due(23, "best(-1, 0)", x.best(-1, 0), BAD);
        for (int what = 2; what < 10; what++) {
            due(23, "best(1, " + what + ")", x.best(1, what), BAD);
        }
        due(23, "best(1, -1)", x.best(1, -1), BAD);
        due(23, "best(0, MIN)", x.best(0, Integer.MIN_VALUE), BAD);
        due(23, "best(MAX, 0)", x.best(Integer.MAX_VALUE, 0), BAD);
        due(23, "rule(6), nothing is done", x.rule(6), 12);
    }

    private static void homeIs(TearsQueue x, int p, int... row) {
        due(24, "home(" + p + ", 0)", x.home(p, 0), row.length);
        for (int i = 0; i < 3; i++) {
            due(24, "home(" + p + ", " + (10 + i) + ")", x.home(p, 10 + i), i < row.length ? row[i] : NONE);
        }
    }

    private static void home() {
        TearsQueue x = Checks.told("plain;plain 6;plain 2;dry;room 1;");
        homeIs(x, 0);
        homeIs(x, 1, 1);
        homeIs(x, 2, 2, 2);
        due(24, "home(3, 0), by no three", x.home(3, 0), NONE);
        due(24, "home(3, 10)", x.home(3, 10), NONE);
        homeIs(Checks.told("plain;plain;room 1;"), 1, 1, 1, 1);
        // The sham ahead weeps, and has frost then.
        homeIs(Checks.told("sham 3;plain;room 1;"), 1, 0);
        homeIs(Checks.told("sham 3;plain 8;plain;room 1;think 1;"), 1, 1, 1);
        // A minute would leave frost on both shams; no thinkings do.
        due(24, "home(2, 0)", Checks.told("sham 1;sham 1;dry;dry;dry;room 1;").home(2, 0), NONE);
        // He never weeps without the one ahead, who is the first by order.
        due(24, "home(1, 0)", Checks.told("soft 4;soft 4;sham 3;room 1;").home(1, 0), NONE);
        // The neighbour's weeping takes the second one along.
        homeIs(Checks.told("dry;soft 1;plain 8;room 2;"), 2, 1);
        due(24, "home(0, 1)", x.home(0, 1), BAD);
        due(24, "home(0, 9)", x.home(0, 9), BAD);
        due(24, "home(0, 13)", x.home(0, 13), BAD);
        due(24, "home(4, 0)", x.home(4, 0), BAD);
        for (int w : WRONG) {
            due(24, "home(w, 0)", x.home(w, 0), BAD);
            due(24, "home(0, w)", x.home(0, w), BAD);
        }
        x.tram();
        due(24, "home(0, 0)", x.home(0, 0), STATE);
        due(24, "home(0, 12)", x.home(0, 12), STATE);
        due(24, "home(0, 13), BAD ahead of STATE", x.home(0, 13), BAD);
    }

    /** Each tram takes as many as there is room, whoever they are: no change takes more along. */
    private static void swap() {
        TearsQueue x = Checks.told("plain;sham;soft 4;room 1;plan 6 2 6 5 1;");
        due(25, "swap(0)", x.swap(0), NONE);
        due(25, "swap(1)", x.swap(1), NONE);
        due(25, "swap(2)", x.swap(2), BAD);
        for (int w : WRONG) {
            due(25, "swap", x.swap(w), BAD);
        }
        int[] acts = {6, 2, 6, 5, 1};
        for (int i = 0; i < acts.length; i++) {
            due(25, "act(i), THE PLAN is as it was", x.act(i), acts[i]);
        }
    }

    private static void enough() {
        TearsQueue x = Checks.told("plain;plain;plain;plain;plain;plan 6 0 6;");
        due(26, "enough()", x.enough(), 3);
        x.cut(2);
        due(26, "enough()", x.enough(), 5);
        x.cut(0);
        due(26, "enough()", x.enough(), NONE);
        due(26, "rule(2), nothing is done", x.rule(2), 2);
        x.room(5);
        x.tram();
        due(26, "enough(), nobody WAITS", x.enough(), 1);
    }

    private static void luckIs(TearsQueue x, int v, int p, long above, long below) {
        due(27, "luck(" + v + ", " + p + ", 0)", x.luck(v, p, 0), above);
        due(27, "luck(" + v + ", " + p + ", 1)", x.luck(v, p, 1), below);
    }

    private static void luck() {
        TearsQueue x = Checks.told("plain 6;plain 6;room 1;plan 1 6;");
        luckIs(x, 0, 1, 1, 1);
        luckIs(x, 3, 1, 7, 10);
        luckIs(x, 3, 0, 3, 10);
        luckIs(x, 5, 1, 1, 2);
        luckIs(x, 1, 1, 9, 10);
        luckIs(x, 9, 1, 1, 10);
        luckIs(x, 10, 1, 0, 1);
        luckIs(Checks.told("plain;plain 9;room 1;think 1;plan 1 1 1 1 1 1 1 6;"), 9, 1, 5217031, 10000000);
        due(27, "luck(11, 0, 0)", x.luck(11, 0, 0), BAD);
        due(27, "luck(0, 2, 0)", x.luck(0, 2, 0), BAD);
        due(27, "luck(0, 0, 2)", x.luck(0, 0, 2), BAD);
        for (int w : WRONG) {
            due(27, "luck(w, 0, 0)", x.luck(w, 0, 0), BAD);
            due(27, "luck(0, w, 0)", x.luck(0, w, 0), BAD);
            due(27, "luck(0, 0, w)", x.luck(0, 0, w), BAD);
        }
        due(27, "rule(5), nothing is done", x.rule(5), 3);
    }

    private static void mean() {
        TearsQueue x = Checks.told("plain 6;plain 6;plain;room 1;plan 1 6 0 6;");
        for (int v = 0; v <= 10; v++) {
            due(28, "mean(v, 0)", x.mean(v, 0), 2);
            due(28, "mean(v, 1)", x.mean(v, 1), 1);
        }
        TearsQueue five = Checks.told(BUSY);
        due(28, "mean(7, 0), of five", five.mean(7, 0), 4);
        due(28, "mean(7, 1), of five", five.mean(7, 1), 1);
        x.cut(1);
        due(28, "mean(3, 0)", x.mean(3, 0), 0);
        due(28, "mean(3, 1)", x.mean(3, 1), 1);
        x.tram();
        due(28, "mean(3, 0), with those who were GONE", x.mean(3, 0), 1);
        due(28, "mean(11, 0)", x.mean(11, 0), BAD);
        due(28, "mean(0, 2)", x.mean(0, 2), BAD);
        for (int w : WRONG) {
            due(28, "mean(w, 0)", x.mean(w, 0), BAD);
            due(28, "mean(0, w)", x.mean(0, w), BAD);
        }
    }

    private static void seeAndForget() {
        TearsQueue x = Checks.told("plain;plain;");
        due(29, "see(2, true)", x.see(2, true), BAD);
        for (int i = 1; i <= 6; i++) {
            due(29, "see(1, false)", x.see(1, false), i);
        }
        due(29, "see(1, true)", x.see(1, true), FULL);
        due(29, "see(2, true), BAD ahead of FULL", x.see(2, true), BAD);
        due(30, "forget(7)", x.forget(7), BAD);
        for (int w : WRONG) {
            due(29, "see", x.see(w, true), BAD);
            due(30, "forget", x.forget(w), BAD);
        }
        due(30, "forget(6)", x.forget(6), 6);
        due(30, "forget(1)", x.forget(1), 6);
        due(30, "count(0)", x.count(0), 1);
        due(30, "forget(0)", x.forget(0), 1);
        due(30, "forget(1)", x.forget(1), BAD);
    }

    private static void kinds() {
        TearsQueue x = Checks.told("plain;plain 1;room 1;plan 1 6;");
        due(31, "kinds(1)", x.kinds(1), 15);
        x.see(1, true);
        due(31, "kinds(1), a soft one; a sham has frost then", x.kinds(1), 2);
        due(31, "kinds(0), a sham", x.kinds(0), 4);
        x.forget(0);
        x.see(1, false);
        due(31, "kinds(1)", x.kinds(1), 13);
        x.see(0, false);
        due(31, "kinds(1)", x.kinds(1), 0);
        due(31, "one(1, 0), nothing is done", x.one(1, 0), 0);
        due(31, "kinds(2)", x.kinds(2), BAD);
        for (int w : WRONG) {
            due(31, "kinds", x.kinds(w), BAD);
        }
    }

    private static void sorrows() {
        TearsQueue x = Checks.told("plain;plain;room 1;plan 1 6;");
        due(32, "sorrows(1)", x.sorrows(1), (1 << 21) - 1);
        x.see(1, true);
        due(32, "sorrows(1), 6 and more", x.sorrows(1), (1 << 21) - 1 - 63);
        x.forget(0);
        x.see(0, true);
        due(32, "sorrows(1), below 6", x.sorrows(1), 63);
        x.see(0, false);
        due(32, "sorrows(1)", x.sorrows(1), 0);
        due(32, "one(1, 1), nothing is done", x.one(1, 1), 0);
        due(32, "sorrows(2)", x.sorrows(2), BAD);
        for (int w : WRONG) {
            due(32, "sorrows", x.sorrows(w), BAD);
        }
    }

    private static void ask() {
        TearsQueue x = Checks.told("plain;plain;dry;room 1;plan 1 6;");
        due(33, "ask(1, 0)", x.ask(1, 0), 0);
        due(33, "ask(1, 1)", x.ask(1, 1), 15);
        due(33, "ask(2, 0)", x.ask(2, 0), 0);
        due(33, "ask(2, 1), 20 sets him off by any thinking", x.ask(2, 1), 20);
        x.see(0, true);
        due(33, "ask(1, 0)", x.ask(1, 0), NONE);
        due(33, "ask(1, 1)", x.ask(1, 1), NONE);
        x.see(0, false);
        due(33, "ask(1, 0), none is left", x.ask(1, 0), NONE);
        due(33, "ask(3, 0)", x.ask(3, 0), BAD);
        due(33, "ask(0, 2)", x.ask(0, 2), BAD);
        for (int w : WRONG) {
            due(33, "ask(w, 0)", x.ask(w, 0), BAD);
            due(33, "ask(0, w)", x.ask(0, w), BAD);
        }
    }

    private static void drift() {
        TearsQueue nobody = new TearsQueue();
        due(34, "drift(1, 1, 0), nobody", nobody.drift(1, 1, 0), STATE);
        due(34, "drift(1, 0, 0), BAD ahead of STATE", nobody.drift(1, 0, 0), BAD);
        int[] seeds = {0, 1, 7, -3, Integer.MAX_VALUE, Integer.MIN_VALUE, 123456789};
        for (int seed : seeds) {
            driftIs(BUSY, 5, seed, 1);
            driftIs(BUSY, 5, seed, 17);
            driftIs(BUSY, 5, seed, 60);
            driftIs("plain 5;soft 3;", 2, seed, 40);
            driftIs("dry;", 1, seed, 30);
        }
        TearsQueue x = Checks.told("soft;");
        due(34, "drift(1, 61, 0)", x.drift(1, 61, 0), BAD);
        due(34, "drift(1, 1, 2)", x.drift(1, 1, 2), BAD);
        for (int w : WRONG) {
            due(34, "drift(1, w, 0)", x.drift(1, w, 0), BAD);
            due(34, "drift(1, 1, w)", x.drift(1, 1, w), BAD);
        }
        x.tram();
        due(34, "drift(1, 60, 0), all are GONE", x.drift(1, 60, 0), 0);
        due(34, "drift(1, 60, 1), all are GONE", x.drift(1, 60, 1), NONE);
    }

    /** The same acts done by the calls of another object. */
    private static void driftIs(String text, int people, int seed, int n) {
        TearsQueue x = Checks.told(text);
        TearsQueue y = Checks.told(text);
        int sorrow = x.rule(6);
        long state = seed;
        int weepings = 0;
        for (int i = 0; i < n; i++) {
            state = (state * 1103515245L + 12345L) & 0xffffffffL;
            int pick = (int) ((state >> 16) % 32768 % (people + 1));
            if (pick == people) {
                y.minutes(1);
            } else {
                weepings += Integer.bitCount(y.thinks(pick));
            }
        }
        due(34, "drift(" + seed + ", " + n + ", 0)", x.drift(seed, n, 0), weepings);
        due(34, "drift(" + seed + ", " + n + ", 1)", x.drift(seed, n, 1), y.queue(0));
        due(34, "rule(6), nothing is done", x.rule(6), sorrow);
    }

    private static void images() {
        TearsQueue x = Checks.told("soft 4;plain 6;room 1;plan 6;");
        x.minutes(2);
        x.thinks(0);
        x.tram();
        due(35, "keep(0)", x.keep(0), 0);
        x.second();
        x.minutes(5);
        x.room(3);
        x.think(7);
        x.alter(0, 0, 3);
        x.joy(0);
        x.plan(5);
        x.see(0, true);
        due(35, "keep(1)", x.keep(1), 0);
        due(36, "back(0)", x.back(0), 2);
        int[] rules = {2, 2, 1, 4, 1, 2, 6};
        for (int i = 0; i < rules.length; i++) {
            due(36, "rule(" + i + ")", x.rule(i), rules[i]);
        }
        int[] first = {1, 0, 2, 5, 1};
        for (int i = 0; i < first.length; i++) {
            due(36, "one(0, " + i + ")", x.one(0, i), first[i]);
        }
        due(36, "act(0)", x.act(0), 6);
        due(36, "count(0), what is SEEN stays", x.count(0), 1);
        x.minutes(9);
        due(36, "back(0), again", x.back(0), 2);
        due(36, "back(1)", x.back(1), 7);
        due(36, "rule(2)", x.rule(2), 3);
        due(36, "one(0, 2)", x.one(0, 2), NONE);
        due(35, "keep(0), there was one", x.keep(0), 1);
        due(36, "back(0)", x.back(0), 7);
        due(35, "keep(2)", x.keep(2), BAD);
        due(36, "back(2)", x.back(2), BAD);
        for (int w : WRONG) {
            due(35, "keep", x.keep(w), BAD);
            due(36, "back", x.back(w), BAD);
        }
    }

    private static void sheet() {
        TearsQueue x = new TearsQueue();
        due(37, "sheet(0, 0, 40)", x.sheet(0, 0, 40), 1);
        due(37, "count(3)", x.count(3), 40);
        x.lay(0, 0, 6);
        due(37, "sheet(0, 2, 1), a new row", x.sheet(0, 2, 1), 1);
        due(37, "count(3)", x.count(3), 1);
        due(37, "read, its cell is 0, of nobody", x.read(0, 2, 0, 1), -20);
        due(37, "sheet(0, 0, 41)", x.sheet(0, 0, 41), BAD);
        due(37, "sheet(0, 0, MAX)", x.sheet(0, 0, Integer.MAX_VALUE), BAD);
        due(37, "sheet(0, 0, -1)", x.sheet(0, 0, -1), -14);
        due(37, "sheet(0, 0, MIN)", x.sheet(0, 0, Integer.MIN_VALUE), -14);
        due(37, "sheet(4, 0, -1), BAD ahead of SIZE", x.sheet(4, 0, -1), BAD);
        due(37, "sheet(0, 3, -1), BAD ahead of SIZE", x.sheet(0, 3, -1), BAD);
        due(37, "sheet(4, 0, 1)", x.sheet(4, 0, 1), BAD);
        due(37, "sheet(0, 3, 1)", x.sheet(0, 3, 1), BAD);
        for (int w : WRONG) {
            due(37, "sheet(w, 0, 1)", x.sheet(w, 0, 1), BAD);
            due(37, "sheet(0, w, 1)", x.sheet(0, w, 1), BAD);
        }
        due(37, "count(3), nothing was changed", x.count(3), 1);
        due(37, "sheet(0, 1, 0), no cells but a row", x.sheet(0, 1, 0), 1);
        due(37, "count(3)", x.count(3), 0);
        due(37, "lay(0, 0, 1)", x.lay(0, 0, 1), -12);
        TearsQueue people = Checks.told("dry;dry;");
        people.sheet(3, 0, 2);
        people.lay(3, 0, 1);
        people.lay(3, 1, 1);
        people.sheet(3, 0, 2);
        due(37, "read, its cells are 0", people.read(3, 0, 0, 2), 2);
        due(37, "one(0, 1)", people.one(0, 1), 8);
    }

    private static void lay() {
        TearsQueue x = Checks.told("plain;");
        due(38, "lay(0, 0, 0), NULL", x.lay(0, 0, 0), -11);
        due(38, "lay(0, -1, 0), NULL ahead of INDEX", x.lay(0, -1, 0), -11);
        for (int lane = 0; lane < 3; lane++) {
            x.sheet(lane, lane, 3);
            due(38, "lay(lane, 0, 5)", x.lay(lane, 0, 5), 1);
            due(38, "lay(lane, 1, 256 + 5)", x.lay(lane, 1, 256 + 5), 1);
            due(38, "lay(lane, 2, 65536 + 5)", x.lay(lane, 2, 65536 + 5), 1);
            due(38, "lay(lane, 3, 5)", x.lay(lane, 3, 5), -12);
            due(38, "lay(lane, -1, 5)", x.lay(lane, -1, 5), -12);
        }
        due(38, "read of BYTES", x.read(0, 0, 0, 3), 3);
        due(38, "read of SHORTS", x.read(1, 1, 0, 3), -21);
        due(38, "read of SHORTS, the lowest bits", x.read(1, 1, 2, 1), 1);
        due(38, "read of INTS", x.read(2, 2, 0, 3), -21);
        due(38, "read of INTS, whole", x.read(2, 2, 2, 1), -20);
        x.lay(0, 0, 128 + 5);
        due(38, "read of BYTES, below 0", x.read(0, 0, 0, 1), -20);
        due(38, "lay(4, 0, 0)", x.lay(4, 0, 0), BAD);
        for (int w : WRONG) {
            due(38, "lay(w, 0, 0)", x.lay(w, 0, 0), BAD);
            due(38, "lay(0, w, 0)", x.lay(0, w, 0), -12);
        }
    }

    private static void layAll(TearsQueue x, int k, int lane, int... cells) {
        x.sheet(k, lane, cells.length);
        for (int i = 0; i < cells.length; i++) {
            x.lay(k, i, cells[i]);
        }
    }

    private static void read() {
        TearsQueue x = Checks.told("plain 6;soft 1;dry;room 1;");
        layAll(x, 0, 0, 5, 0, 1, 6, 2);
        // 5: 5, 0, 0; 0 thinks: 9; 1 thinks: 4; 0 goes; 2 thinks: 4
        due(39, "read(0, 0, 0, 5)", x.read(0, 0, 0, 5), 5);
        due(39, "rule(1)", x.rule(1), 1);
        due(39, "rule(5)", x.rule(5), 6);
        due(39, "rule(6)", x.rule(6), 8);
        due(39, "read(0, 0, 2, 1)", x.read(0, 0, 2, 1), 1);
        due(39, "one(1, 2)", x.one(1, 2), 1);
        due(39, "read(0, 0, 4, 3), INDEX: those ahead were", x.read(0, 0, 4, 3), 1);
        due(39, "one(2, 1)", x.one(2, 1), 4 + 2 + 4);
        due(39, "read(0, 0, 0, 0)", x.read(0, 0, 0, 0), 0);
        due(39, "read(0, 0, MAX, 20)", x.read(0, 0, Integer.MAX_VALUE, 20), 0);
        due(39, "read(0, 0, MIN, 20)", x.read(0, 0, Integer.MIN_VALUE, 20), 0);
        due(39, "read(0, 0, 0, 21)", x.read(0, 0, 0, 21), BAD);
        due(39, "read(0, 3, 0, 1)", x.read(0, 3, 0, 1), BAD);
        due(39, "read(4, 0, 0, 1)", x.read(4, 0, 0, 1), BAD);
        for (int w : WRONG) {
            due(39, "read(w, 0, 0, 1)", x.read(w, 0, 0, 1), BAD);
            due(39, "read(0, w, 0, 1)", x.read(0, w, 0, 1), BAD);
            due(39, "read(0, 0, 0, w)", x.read(0, 0, 0, w), BAD);
        }
        layAll(x, 1, 2, 5, 5, 5, 5, 5, 5, 5, 5, 5, 5, 5, 5, 5, 5, 5, 5, 5, 5, 5, 5);
        due(39, "read(1, 2, 0, 20)", x.read(1, 2, 0, 20), 20);
        due(39, "rule(1)", x.rule(1), 21);
    }

    /** An act that is none, of nobody, or of one who is GONE by then: none of the row was done. */
    private static void readPutsBack() {
        TearsQueue x = Checks.told("plain 6;soft 1;room 1;");
        layAll(x, 0, 1, 0, 5, 6, 0);
        due(39, "read, 0 is GONE by the tram", x.read(0, 1, 0, 4), -23);
        layAll(x, 0, 1, 0, 5, 7);
        due(39, "read, 7 is no act", x.read(0, 1, 0, 3), -22);
        layAll(x, 0, 1, 0, 2);
        due(39, "read, there is no 2", x.read(0, 1, 0, 2), -21);
        layAll(x, 0, 1, -1);
        due(39, "read, -1 is no act, met ahead of INDEX", x.read(0, 1, 0, 2), -20);
        due(39, "rule(1)", x.rule(1), 0);
        due(39, "rule(5)", x.rule(5), 3);
        due(39, "rule(6)", x.rule(6), 7);
        due(39, "count(4)", x.count(4), 0);
    }

    private static void torn() {
        TearsQueue x = Checks.told("plain;");
        due(40, "torn()", x.torn(), 0);
        x.read(0, 0, 0, 1);
        due(40, "torn(), NULL", x.torn(), 1);
        layAll(x, 0, 0, 5, 9);
        x.read(0, 1, 7, 1);
        due(40, "torn(), CAST ahead of INDEX", x.torn(), 3);
        x.read(0, 0, 1, 1);
        due(40, "torn(), the refused read counts for nothing", x.torn(), 3);
        x.read(0, 0, 0, 21);
        due(40, "torn(), the BAD read counts for nothing", x.torn(), 3);
        x.read(0, 0, -1, 1);
        due(40, "torn(), INDEX", x.torn(), 2);
        x.lay(3, 0, 0);
        x.sheet(3, 0, -1);
        due(40, "torn(), of read() alone", x.torn(), 2);
        x.read(0, 0, 0, 1);
        due(40, "torn(), came to its end", x.torn(), 0);
        x.read(0, 0, 2, 1);
        due(40, "torn()", x.torn(), 2);
        x.read(0, 0, 2, 0);
        due(40, "torn(), nothing was to be read", x.torn(), 0);
    }

    /** As many as there may be: PEOPLE, ACTS, bytes. */
    private static void full() {
        TearsQueue x = Checks.told("soft 4;soft 4;soft 4;soft 4;soft 4;plan 0 5 6 1 6 2 6 6;");
        due(33, "ask(0, 0)", x.ask(0, 0), NONE);
        due(20, "runs(1)", x.runs(1), 31);
        due(23, "best(4, 0)", x.best(4, 0), 5);
        due(15, "thinks(4)", x.thinks(4), 31);
        due(41, "count(4)", x.count(4), 5);
        due(41, "count(5)", x.count(5), 4);
        due(16, "minutes(1)", x.minutes(1), 0 + 1 + 1 + 1 + 1);
        queueIs(x, 0, 1, 2, 3, 4);
        due(26, "enough()", x.enough(), 2);
        StringBuilder lines = new StringBuilder("plan;");
        while (lines.length() < 160) {
            lines.append(' ');
        }
        text(lines.toString(), 1, 0);
        lines.setCharAt(159, 'z');
        text(lines.toString(), -169, 2);
        lines.setCharAt(159, '7');
        text(lines.toString(), -169, 2);
        lines.setCharAt(159, '?');
        text(lines.toString(), -169, 1);
    }

    private static void count() {
        TearsQueue x = Checks.told("soft 4;soft 4;plain;room 1;plan 6 0 6 5 6;");
        x.see(0, true);
        x.see(1, true);
        x.keep(1);
        x.feed(32);
        x.feed(33);
        x.feed(34);
        x.sheet(0, 1, 7);
        x.sheet(1, 1, 9);
        x.thinks(0);
        x.tram();
        int[] counts = {2, 1, 3, 7, 2, 3};
        for (int i = 0; i < counts.length; i++) {
            due(41, "count(" + i + ")", x.count(i), counts[i]);
        }
        x.keep(0);
        due(41, "count(1)", x.count(1), 2);
        x.joy(1);
        due(41, "count(4)", x.count(4), 1);
        due(41, "count(6)", x.count(6), BAD);
        for (int w : WRONG) {
            due(41, "count", x.count(w), BAD);
        }
    }
}
