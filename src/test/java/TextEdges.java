/** Promises 1 to 9, sentence by sentence: the text, what there is. */
public final class TextEdges {
    private static final int BAD = Sentences.BAD, FULL = Sentences.FULL, NONE = Sentences.NONE;

    public static void main(String[] args) throws ReflectiveOperationException {
        Sentences.run(TextEdges.class);
    }

    private static void due(String call, long got, long want) {
        Sentences.due(call, got, want);
    }

    @Says(of = 1, value = "Nobody waits;")
    static void nobodyWaits() {
        TearsQueue x = new TearsQueue();
        int[] rules = {0, 0, 2, 4, 0, 0, 0};
        for (int what = 0; what < 7; what++) {
            due("rule(" + what + ")", x.rule(what), rules[what]);
        }
        Sentences.queueIs(x);
        due("one(0, 0)", x.one(0, 0), BAD);
        due("tram()", x.tram(), 0);
        due("second()", x.second(), 0);
        due("count(4)", x.count(4), 0);
    }

    @Says(of = 1, value = "SHEETS have nothing.")
    static void sheetsHaveNothing() {
        TearsQueue x = new TearsQueue();
        for (int k = 0; k < 4; k++) {
            due("lay(" + k + ", 0, 0)", x.lay(k, 0, 0), -11);
        }
        due("count(3)", x.count(3), NONE);
    }

    @Says(of = 2, value = "A byte (0 to 127) comes behind THE TAPE: how many it has.")
    static void feedTakesBytes() {
        TearsQueue x = new TearsQueue();
        for (int c = 0; c < 128; c++) {
            due("feed(" + c + ")", x.feed(c), c + 1);
        }
        due("count(2)", x.count(2), 128);
        x.end(0);
        Checks.feedAll(x, "dry 1;soft 2;");
        due("text(), behind one another", x.text(), 2);
        due("one(1, 1)", x.one(1, 1), 2);
    }

    @Says(of = 2, value = "BAD;")
    static void feedBad() {
        int[] wrong = {-1, 128, 255, 256, 256 + 'a', -128, Integer.MIN_VALUE, Integer.MAX_VALUE};
        for (int c : wrong) {
            Sentences.leavesAll("feed(" + c + ")", x -> x.feed(c), BAD);
        }
    }

    @Says(of = 2, value = "FULL: more than 160.")
    static void feedFull() {
        TearsQueue x = new TearsQueue();
        for (int i = 1; i < 160; i++) {
            x.feed(' ');
        }
        due("feed(32), the 160th", x.feed(' '), 160);
        due("feed(32), the 161st", x.feed(' '), FULL);
        due("end(159)", x.end(159), 160);
        due("feed(32)", x.feed(' '), 160);
        due("text()", x.text(), 0);
        due("feed(32), the tape is empty", x.feed(' '), 1);
        Sentences.leavesAll(Busy::withFullTape, "feed('?')", y -> y.feed('?'), FULL);
    }

    @Says(of = 3, value = "THE TAPE keeps its first n bytes: how many it had.")
    static void endKeeps() {
        TearsQueue x = new TearsQueue();
        due("end(0), of nothing", x.end(0), 0);
        Checks.feedAll(x, "dry;soft;");
        due("end(9), all", x.end(9), 9);
        due("end(4)", x.end(4), 9);
        due("end(4)", x.end(4), 4);
        due("count(2)", x.count(2), 4);
        due("text()", x.text(), 1);
        due("one(0, 0)", x.one(0, 0), 3);
        TearsQueue full = Busy.withFullTape();
        due("end(160)", full.end(160), 160);
        due("end(0)", full.end(0), 160);
        due("count(2)", full.count(2), 0);
    }

    @Says(of = 3, value = "BAD.")
    static void endBad() {
        for (int n : Sentences.beyond(0, 6)) {
            Sentences.leavesAll("end(" + n + ")", x -> x.end(n), BAD);
        }
        Sentences.leavesAll(TearsQueue::new, "end(1), of nothing", x -> x.end(1), BAD);
        Sentences.leavesAll(Busy::withFullTape, "end(161)", x -> x.end(161), BAD);
    }

    @Says(of = 4, value = "THE TAPE (empty then) tells all:")
    static void textEmptiesTheTape() {
        TearsQueue x = Checks.told("dry;");
        due("count(2), behind a text that is taken", x.count(2), 0);
        due("feed('?')", x.feed('?'), 1);
        due("text()", x.text(), -10);
        due("count(2), behind a text that is not", x.count(2), 0);
        due("text(), of nothing by now", x.text(), 0);
        due("rule(0)", x.rule(0), 0);
    }

    @Says(of = 4, value = "how many lines;")
    static void textLines() {
        Sentences.text("", 0, 0);
        Sentences.text("    ", 0, 0);
        Sentences.text("room 1;", 1, 0);
        Sentences.text("dry;dry;dry;dry;dry;room 1;think 1;plan 0 4;", 8, 0);
    }

    @Says(of = 4, value = "-10 less the place of its FAULT:")
    static void textFaultPlace() {
        Sentences.text("?", -10, 1);
        Sentences.text("dry;?", -14, 1);
        StringBuilder full = new StringBuilder("dry");
        while (full.length() < 160) {
            full.append(' ');
        }
        Sentences.text(full.toString(), -170, 2);
    }

    @Says(of = 4, value = "that which was told stays.")
    static void textToldStays() {
        String[] refused = {"?", "dry;room 5;think 9;plan 5;dog", "plain 41;", "plan;plan;", "plan 0;", "dry;dry;plan 4;"};
        for (String text : refused) {
            TearsQueue x = Busy.made();
            TearsQueue twin = Busy.made();
            x.end(0);
            Checks.feedAll(x, text);
            int answer = x.text();
            Checks.holds("'" + text + "' is taken", answer <= -10);
            // The tape and fault() are as they are behind any text that is refused.
            twin.end(0);
            Checks.feedAll(twin, text);
            twin.end(0);
            x.feed('?');
            x.text();
            twin.feed('?');
            twin.text();
            Checks.holds("'" + text + "' changes something", Busy.everything(x).equals(Busy.everything(twin)));
        }
    }

    @Says(of = 5, value = "The FAULT of the latest text();")
    static void faultOfTheLatest() {
        TearsQueue x = new TearsQueue();
        String[] texts = {"?", "dog;", "room 9;", "plan;plan;", "dry;dry;dry;dry;dry;dry;", "plan 0;", "dry;", "room;"};
        int[] faults = {1, 2, 3, 4, 5, 6, 0, 2};
        for (int i = 0; i < texts.length; i++) {
            Checks.feedAll(x, texts[i]);
            due("fault(), of the text before", x.fault(), i == 0 ? 0 : faults[i - 1]);
            x.text();
            due("fault() of '" + texts[i] + "'", x.fault(), faults[i]);
        }
        x.feed(-1);
        x.end(-1);
        x.lay(0, 0, 0);
        x.read(0, 0, 0, 1);
        due("fault(), of text() alone", x.fault(), 2);
        Sentences.onlyAsks("fault()", TearsQueue::fault);
    }

    @Says(of = 5, value = "0.")
    static void faultAtFirst() {
        due("fault()", new TearsQueue().fault(), 0);
        due("fault()", Checks.told("dry;").fault(), 0);
    }

    @Says(of = 6, value = "0 PEOPLE, 1 MINUTE, 2 ROOM, 3 THINK, 4 ACTS of THE PLAN,")
    static void rules() {
        TearsQueue x = Checks.told("dry;dry;dry;dry;dry;room 5;think 9;plan 0 0 0 0 0 0 0 0;");
        x.minutes(60);
        int[] rules = {5, 60, 5, 9, 8};
        for (int what = 0; what < 5; what++) {
            due("rule(" + what + ")", x.rule(what), rules[what]);
        }
        x.tram();
        due("rule(0), with the GONE", x.rule(0), 5);
        due("rule(2), ROOM stays", x.rule(2), 5);
    }

    @Says(of = 6, value = "5 who WAITS (bits), 6 all SORROW of these.")
    static void rulesOfThoseWhoWait() {
        TearsQueue x = Checks.told("dry 40;dry 40;dry 40;dry 40;dry 40;");
        due("rule(5)", x.rule(5), 31);
        due("rule(6)", x.rule(6), 200);
        x.tram();
        due("rule(5)", x.rule(5), 28);
        due("rule(6)", x.rule(6), 120);
        x.room(5);
        x.tram();
        due("rule(5), nobody", x.rule(5), 0);
        due("rule(6), nobody", x.rule(6), 0);
    }

    @Says(of = 6, value = "BAD.")
    static void ruleBad() {
        for (int what : Sentences.beyond(0, 6)) {
            Sentences.leavesAll("rule(" + what + ")", x -> x.rule(what), BAD);
        }
    }

    @Says(of = 7, value = "Of a ONE: 0 KIND, 1 SORROW,")
    static void oneKindSorrow() {
        TearsQueue x = Checks.told("plain 40;soft 39;sham 1;dry 0;plain;room 5;");
        int[] kind = {0, 1, 2, 3, 0};
        int[] sorrow = {40, 39, 1, 0, 0};
        for (int p = 0; p < 5; p++) {
            due("one(" + p + ", 0)", x.one(p, 0), kind[p]);
            due("one(" + p + ", 1)", x.one(p, 1), sorrow[p]);
        }
        x.tram();
        due("one(0, 1), who is GONE", x.one(0, 1), 40);
    }

    @Says(of = 7, value = "2 the MINUTE in which he WEPT last (NONE: never),")
    static void oneWept() {
        TearsQueue x = Checks.told("soft 1;dry;");
        due("one(0, 2)", x.one(0, 2), NONE);
        x.thinks(0);
        due("one(0, 2), MINUTE 0", x.one(0, 2), 0);
        x.minutes(60);
        x.thinks(0);
        due("one(0, 2), he THINKS and does not WEEP", x.one(0, 2), 0);
        x.thinks(0);
        due("one(0, 2), the last", x.one(0, 2), 60);
        due("one(1, 2)", x.one(1, 2), NONE);
        x.joy(0);
        due("one(0, 2), never by joy", x.one(0, 2), NONE);
    }

    @Says(of = 7, value = "3 BRIM,")
    static void oneBrim() {
        TearsQueue x = Checks.told("plain;soft;sham;dry;");
        int[] brims = {10, 5, 4, 20};
        for (int p = 0; p < 4; p++) {
            due("one(" + p + ", 3)", x.one(p, 3), brims[p]);
            x.alter(p, 0, 3 - p);
            due("one(" + p + ", 3), of another KIND", x.one(p, 3), brims[3 - p]);
        }
    }

    @Says(of = 7, value = "4 whether he is GONE (1, 0).")
    static void oneGone() {
        TearsQueue x = Checks.told("dry;dry;room 1;");
        x.tram();
        due("one(0, 4)", x.one(0, 4), 1);
        due("one(1, 4)", x.one(1, 4), 0);
        x.second();
        due("one(0, 4)", x.one(0, 4), 0);
    }

    @Says(of = 7, value = "BAD.")
    static void oneBad() {
        for (int w : Sentences.beyond(0, 4)) {
            Sentences.leavesAll("one(" + w + ", 0)", x -> x.one(w, 0), BAD);
            Sentences.leavesAll("one(0, " + w + ")", x -> x.one(0, w), BAD);
        }
        due("one(0, 0), nobody", new TearsQueue().one(0, 0), BAD);
        due("one(1, 0), of one", Checks.told("dry;").one(1, 0), BAD);
    }

    @Says(of = 8, value = "The i-th ACT of THE PLAN (from 0).")
    static void acts() {
        TearsQueue x = Checks.told(Busy.TEXT);
        int[] acts = {0, 1, 5, 6, 4, 2, 2, 6};
        for (int i = 0; i < 8; i++) {
            due("act(" + i + ")", x.act(i), acts[i]);
        }
        x.cut(3);
        x.plan(3);
        due("act(2)", x.act(2), 5);
        due("act(3)", x.act(3), 3);
    }

    @Says(of = 8, value = "BAD.")
    static void actBad() {
        for (int i : Sentences.beyond(0, 7)) {
            Sentences.leavesAll("act(" + i + ")", x -> x.act(i), BAD);
        }
        TearsQueue x = Checks.told(Busy.TEXT);
        x.cut(3);
        due("act(3), cut off", x.act(3), BAD);
        due("act(0), of no ACTS", new TearsQueue().act(0), BAD);
    }

    @Says(of = 9, value = "The i-th (from 0) of THE QUEUE now.")
    static void queue() {
        Sentences.queueIs(Busy.made(), 0, 1, 3, 2);
        TearsQueue x = Checks.told("dry;dry;dry;dry;soft 1;");
        Sentences.queueIs(x, 0, 1, 2, 3, 4);
        x.thinks(4);
        Sentences.queueIs(x, 4, 0, 1, 2, 3);
        x.tram();
        Sentences.queueIs(x, 1, 2, 3);
    }

    @Says(of = 9, value = "BAD (i is not 0 to 4);")
    static void queueBad() {
        for (int i : Sentences.beyond(0, 4)) {
            Sentences.leavesAll("queue(" + i + ")", x -> x.queue(i), BAD);
            Sentences.leavesAll(TearsQueue::new, "queue(" + i + "), nobody", x -> x.queue(i), BAD);
        }
    }

    @Says(of = 9, value = "NONE: it is not so long.")
    static void queueNone() {
        Sentences.leavesAll("queue(4)", x -> x.queue(4), NONE);
        for (int i = 0; i < 5; i++) {
            due("queue(" + i + "), nobody", new TearsQueue().queue(i), NONE);
        }
        TearsQueue x = Checks.told("dry;dry;");
        due("queue(1)", x.queue(1), 1);
        due("queue(2)", x.queue(2), NONE);
        x.tram();
        due("queue(0), all are GONE", x.queue(0), NONE);
    }
}
