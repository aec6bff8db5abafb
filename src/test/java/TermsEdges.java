/** What the Terms say of people, minutes, the queue, trams and sheets, and its edges. */
public final class TermsEdges {
    private static final int BAD = Sentences.BAD, STATE = Sentences.STATE;
    private static final int FULL = Sentences.FULL, NONE = Sentences.NONE;

    public static void main(String[] args) throws ReflectiveOperationException {
        Sentences.run(TermsEdges.class);
    }

    private static void due(String call, long got, long want) {
        Sentences.due(call, got, want);
    }

    @Says(of = Says.OPENING, value = "An object is used for at most 512 calls after it has been made;")
    static void calls512() {
        TearsQueue x = Checks.told("dry;");
        for (int i = 0; i < 505; i++) {
            x.minutes(1);
        }
        due("rule(1), the 511th", x.rule(1), 505);
        due("thinks(0), the 512th", x.thinks(0), 0);
    }

    @Says(of = Says.OPENING, value = "what later calls answer is free.")
    static void laterCallsEndAllTheSame() {
        TearsQueue x = Checks.told(Busy.TEXT);
        for (int i = 0; i < 2000; i++) {
            x.thinks(i % 5);
            x.feed('a');
        }
        Checks.holds("a call ends", true);
    }

    @Says("Answers: BAD -1 (a number is not as told, there is no such ONE, IMAGE, SHEET),")
    static void badIsMinusOne() {
        due("BAD", TearsQueue.BAD, -1);
        Sentences.leavesAll("room(6), a number", x -> x.room(6), -1);
        Sentences.leavesAll("thinks(5), no such ONE", x -> x.thinks(5), -1);
        Sentences.leavesAll("back(2), no such IMAGE", x -> x.back(2), -1);
        Sentences.leavesAll("lay(4, 0, 0), no such SHEET", x -> x.lay(4, 0, 0), -1);
    }

    @Says("STATE -2 (as told), FULL -3, NONE -4 (there is none),")
    static void theOtherAnswers() {
        due("STATE", TearsQueue.STATE, -2);
        due("FULL", TearsQueue.FULL, -3);
        due("NONE", TearsQueue.NONE, -4);
        Sentences.leavesAll("thinks(4), who is GONE", x -> x.thinks(4), -2);
        Sentences.leavesAll("plan(5), a 9th", x -> x.plan(5), -3);
        Sentences.leavesAll("queue(4)", x -> x.queue(4), -4);
    }

    @Says("the first that fits;")
    static void theFirstThatFits() {
        Sentences.leavesAll("home(4, 13), BAD and STATE", x -> x.home(4, 13), BAD);
        Sentences.leavesAll("back(-1), BAD and STATE", x -> x.back(-1), BAD);
        Sentences.leavesAll("plan(7), BAD and FULL", x -> x.plan(7), BAD);
        Sentences.leavesAll("drift(1, 0, 0), BAD and STATE", x -> x.drift(1, 0, 0), BAD);
        Sentences.leavesAll(TearsQueue::new, "drift(1, 61, 0), BAD and STATE", x -> x.drift(1, 61, 0), BAD);
        Sentences.leavesAll(Busy::withAllSeen, "see(5, true), BAD and FULL", x -> x.see(5, true), BAD);
        Sentences.leavesAll(Busy::withFullTape, "feed(128), BAD and FULL", x -> x.feed(128), BAD);
        Sentences.leavesAll("home(4, 10), STATE and NONE", x -> x.home(4, 10), STATE);
    }

    @Says("what is refused changes nothing")
    static void refusedChangesNothing() {
        Sentences.leavesAll("minutes(61)", x -> x.minutes(61), BAD);
        Sentences.leavesAll("joy(4)", x -> x.joy(4), STATE);
        Sentences.leavesAll(Busy::withAllSeen, "see(0, true)", x -> x.see(0, true), FULL);
        Sentences.leavesAll("sheet(0, 0, -1)", x -> x.sheet(0, 0, -1), -14);
        Sentences.leavesAll("lay(0, 3, 1)", x -> x.lay(0, 3, 1), -12);
        Sentences.leavesAll("read(0, 0, 0, 21)", x -> x.read(0, 0, 0, 21), BAD);
    }

    @Says("(but THE TAPE, as told).")
    static void refusedTextEmptiesTheTape() {
        TearsQueue x = Busy.made();
        x.feed('?');
        due("text()", x.text(), -16);
        due("count(2)", x.count(2), 0);
        due("rule(0)", x.rule(0), 5);
    }

    @Says("Fractions are in lowest terms, the denominator above 0 (0 is 0 by 1).")
    static void fractions() {
        TearsQueue x = Checks.told("plain;plain 9;room 1;think 1;plan 1 1 6;");
        // He is GONE unless both thoughts fail.
        int[] odds = {0, 1, 2, 4, 5, 8, 10};
        int[] above = {1, 99, 24, 21, 3, 9, 0};
        int[] below = {1, 100, 25, 25, 4, 25, 1};
        for (int i = 0; i < odds.length; i++) {
            due("luck(" + odds[i] + ", 1, 0)", x.luck(odds[i], 1, 0), above[i]);
            due("luck(" + odds[i] + ", 1, 1)", x.luck(odds[i], 1, 1), below[i]);
        }
        due("luck(0, 0, 0), 0 is 0 by 1", x.luck(0, 0, 0), 0);
        due("luck(0, 0, 1)", x.luck(0, 0, 1), 1);
        TearsQueue nobody = new TearsQueue();
        due("mean(5, 0), 0 is 0 by 1", nobody.mean(5, 0), 0);
        due("mean(5, 1)", nobody.mean(5, 1), 1);
        due("mean(5, 0)", x.mean(5, 0), 1);
        due("mean(5, 1)", x.mean(5, 1), 1);
    }

    @Says("PEOPLE (5 at most), by order,")
    static void people() {
        TearsQueue x = Checks.told("dry;sham;soft;plain;dry;");
        int[] kinds = {3, 2, 1, 0, 3};
        due("rule(0)", x.rule(0), 5);
        for (int p = 0; p < 5; p++) {
            due("one(" + p + ", 0)", x.one(p, 0), kinds[p]);
        }
        Sentences.text("dry;sham;soft;plain;dry;sham;", -34, 5);
    }

    @Says("each a ONE of a KIND (0 plain, 1 soft, 2 sham, 3 dry),")
    static void kinds() {
        TearsQueue x = Checks.told("plain;soft;sham;dry;");
        for (int p = 0; p < 4; p++) {
            due("one(" + p + ", 0)", x.one(p, 0), p);
            due("alter(" + p + ", 0, 4)", x.alter(p, 0, 4), BAD);
            due("alter(" + p + ", 0, -1)", x.alter(p, 0, -1), BAD);
        }
    }

    @Says("with SORROW (0 to 40; 0 at first),")
    static void sorrow() {
        TearsQueue x = Checks.told("dry;dry 0;dry 40;");
        due("one(0, 1), at first", x.one(0, 1), 0);
        due("one(1, 1)", x.one(1, 1), 0);
        due("one(2, 1)", x.one(2, 1), 40);
        due("alter(2, 1, 41)", x.alter(2, 1, 41), BAD);
        due("alter(2, 1, -1)", x.alter(2, 1, -1), BAD);
        due("alter(2, 1, 0)", x.alter(2, 1, 0), 40);
        due("alter(2, 1, 40)", x.alter(2, 1, 40), 0);
        Sentences.text("dry 41;", -14, 3);
    }

    @Says("who WAITS or is GONE (waits at first),")
    static void waits() {
        TearsQueue x = Checks.told("dry;sham;");
        due("rule(5)", x.rule(5), 3);
        due("one(1, 4)", x.one(1, 4), 0);
        x.tram();
        due("rule(5)", x.rule(5), 0);
        due("one(1, 4)", x.one(1, 4), 1);
    }

    @Says("WEPT in a MINUTE or never (never at first).")
    static void never() {
        TearsQueue x = Checks.told("soft 5;dry;");
        due("one(0, 2), brimful, but never yet", x.one(0, 2), NONE);
        due("count(4)", x.count(4), 0);
        x.thinks(0);
        due("one(0, 2), in MINUTE 0, which is not never", x.one(0, 2), 0);
        Sentences.queueIs(x, 0, 1);
    }

    @Says("MINUTE (0 to 999; 0 at first).")
    static void minute() {
        TearsQueue x = new TearsQueue();
        due("rule(1)", x.rule(1), 0);
        for (int i = 0; i < 16; i++) {
            x.minutes(60);
        }
        x.minutes(38);
        due("rule(1)", x.rule(1), 998);
        x.minutes(1);
        due("rule(1)", x.rule(1), 999);
        x.minutes(60);
        due("rule(1)", x.rule(1), 999);
    }

    @Says("ROOM of a tram (1 to 5; 2 at first).")
    static void room() {
        TearsQueue x = new TearsQueue();
        due("room(1)", x.room(1), 2);
        due("room(5)", x.room(5), 1);
        due("room(0)", x.room(0), BAD);
        due("room(6)", x.room(6), BAD);
        Sentences.text("room 0;", -15, 3);
        Sentences.text("room 1;", 1, 0);
        Sentences.text("room 5;", 1, 0);
        Sentences.text("room 6;", -15, 3);
    }

    @Says("THINK (1 to 9; 4 at first).")
    static void think() {
        TearsQueue x = new TearsQueue();
        due("think(1)", x.think(1), 4);
        due("think(9)", x.think(9), 1);
        due("think(0)", x.think(0), BAD);
        due("think(10)", x.think(10), BAD);
        Sentences.text("think 0;", -16, 3);
        Sentences.text("think 1;", 1, 0);
        Sentences.text("think 9;", 1, 0);
        Sentences.text("think 10;", -16, 3);
    }

    @Says("THE PLAN: ACTS, one behind another (8 at most): 0 to 4: that ONE THINKS; 5: a MINUTE goes; 6: a TRAM comes.")
    static void plan() {
        TearsQueue x = Checks.told("dry 1;dry 2;dry 3;dry 4;dry 5;room 1;plan 0 1 2 3 4 5 5 6;");
        due("plan(5)", x.plan(5), FULL);
        due("ahead(0, 0)", x.ahead(0, 0), 3);
        due("ahead(1, 0)", x.ahead(1, 0), 4);
        due("ahead(2, 0)", x.ahead(2, 0), 5);
        due("ahead(3, 0)", x.ahead(3, 0), 6);
        due("ahead(4, 0)", x.ahead(4, 0), 7);
        due("runs(0)", x.runs(0), 1);
        Sentences.text("plan 5 5 5 5 5 5 5 5;", 1, 0);
        Sentences.text("plan 5 5 5 5 5 5 5 5 5;", -31, 5);
    }

    @Says("BRIM by KIND: plain 10; soft half of that; sham 1 less than a soft one; dry twice a plain one.")
    static void brims() {
        String[] names = {"plain", "soft", "sham", "dry"};
        int[] brims = {10, 5, 4, 20};
        for (int kind = 0; kind < 4; kind++) {
            TearsQueue x = Checks.told(names[kind] + " " + (brims[kind] - 2) + ";think 1;");
            due("one(0, 3) of " + names[kind], x.one(0, 3), brims[kind]);
            due("thinks(0), 1 less than the BRIM", x.thinks(0), 0);
            due("thinks(0), the BRIM", x.thinks(0), 1);
        }
    }

    @Says("A ONE who WAITS THINKS: his SORROW is more by THINK (40 at most).")
    static void thinksMore() {
        TearsQueue x = Checks.told("dry 3;think 9;");
        due("thinks(0)", x.thinks(0), 0);
        due("one(0, 1)", x.one(0, 1), 12);
        x.think(1);
        x.thinks(0);
        due("one(0, 1)", x.one(0, 1), 13);
        x.alter(0, 1, 40);
        x.think(9);
        due("thinks(0), of 40", x.thinks(0), 1);
        due("one(0, 1)", x.one(0, 1), 0);
        x.tram();
        due("thinks(0), who does not WAIT", x.thinks(0), STATE);
    }

    @Says("Then, as long as there is a ONE who WAITS, has SORROW of his BRIM or more")
    static void whoeverIsBrimful() {
        TearsQueue x = Checks.told("plain 10;dry;dry;soft 5;room 1;");
        due("tram()", x.tram(), 1);
        due("thinks(1), 3 is brimful; 0 is GONE", x.thinks(1), 8);
        due("one(0, 1)", x.one(0, 1), 10);
        due("one(0, 2)", x.one(0, 2), NONE);
        due("one(1, 1)", x.one(1, 1), 4);
        due("one(2, 1)", x.one(2, 1), 2);
        TearsQueue y = Checks.told("dry;soft 4;");
        due("thinks(0), 1 less than the BRIM", y.thinks(0), 0);
    }

    @Says("and did not weep by this THINKING yet,")
    static void onceByOneThinking() {
        TearsQueue x = Checks.told("soft 3;sham;soft 3;");
        due("thinks(1)", x.thinks(1), 7);
        due("one(1, 1), brimful again by the two", x.one(1, 1), 4);
        due("one(0, 1)", x.one(0, 1), 0);
        due("one(2, 1)", x.one(2, 1), 0);
        due("thinks(0), by another THINKING he WEEPS", x.thinks(0), 3);
        due("one(1, 1)", x.one(1, 1), 2);
        due("one(2, 1)", x.one(2, 1), 2);
        TearsQueue y = Checks.told("soft 3;sham;soft 3;dry;dry;");
        due("thinks(1), with others who do not WEEP", y.thinks(1), 7);
        due("one(1, 1), he is not asked again", y.one(1, 1), 4);
        due("one(0, 1)", y.one(0, 1), 0);
        due("one(2, 1)", y.one(2, 1), 0);
    }

    @Says("the first of these WEEPS: he WEPT in this MINUTE, his SORROW is 0,")
    static void theFirstOfTheseWeeps() {
        TearsQueue x = Checks.told("plain;plain;dry;");
        x.minutes(3);
        x.alter(0, 1, 10);
        x.alter(1, 1, 10);
        due("thinks(2)", x.thinks(2), 3);
        int[] sorrow = {2, 0, 6};
        int[] wept = {3, 3, NONE};
        for (int p = 0; p < 3; p++) {
            due("one(" + p + ", 1)", x.one(p, 1), sorrow[p]);
            due("one(" + p + ", 2)", x.one(p, 2), wept[p]);
        }
    }

    @Says("that of the nearest ONE who WAITS ahead of him (by order) and of the nearest behind him is 2 more each (40 at most).")
    static void besideHim() {
        sorrowsBehind("soft 1;dry;dry;", 0, 0, 2, 0);
        sorrowsBehind("dry;dry;soft 1;", 2, 0, 2, 0);
        sorrowsBehind("dry;dry 3;soft 1;dry 5;dry;", 2, 0, 5, 0, 7, 0);
        sorrowsBehind("soft 1;", 0, 0);
        sorrowsBehind("soft 1;plain 40;", 0, 2, 0);
        TearsQueue x = Checks.told("sham;plain;soft 1;sham;room 1;");
        due("tram()", x.tram(), 2);
        due("thinks(2), past the GONE", x.thinks(2), 4);
        due("one(0, 1)", x.one(0, 1), 2);
        due("one(1, 1)", x.one(1, 1), 0);
        due("one(3, 1)", x.one(3, 1), 2);
        TearsQueue y = Checks.told("dry;dry;soft 1;");
        y.tram();
        due("thinks(2), alone by now", y.thinks(2), 4);
        due("one(0, 1)", y.one(0, 1), 0);
        due("one(1, 1)", y.one(1, 1), 0);
    }

    private static void sorrowsBehind(String text, int thinker, int... sorrows) {
        TearsQueue x = Checks.told(text);
        x.thinks(thinker);
        for (int p = 0; p < sorrows.length; p++) {
            due("one(" + p + ", 1) of " + text, x.one(p, 1), sorrows[p]);
        }
    }

    @Says("A MINUTE goes: SORROW of all who WAIT is 1 less (0 at least),")
    static void dries() {
        TearsQueue x = Checks.told("dry 9;dry 1;dry 0;dry 40;room 1;");
        x.tram();
        due("minutes(1)", x.minutes(1), 39);
        int[] sorrow = {9, 0, 0, 39};
        for (int p = 0; p < 4; p++) {
            due("one(" + p + ", 1)", x.one(p, 1), sorrow[p]);
        }
        due("minutes(1)", x.minutes(1), 38);
    }

    @Says("MINUTE is 1 more (999 at most).")
    static void theLastMinute() {
        TearsQueue x = Checks.told("soft;dry;");
        for (int i = 0; i < 17; i++) {
            x.minutes(60);
        }
        x.alter(0, 1, 1);
        due("thinks(0)", x.thinks(0), 1);
        due("one(0, 2)", x.one(0, 2), 999);
        due("minutes(1), it dries all the same", x.minutes(1), 1);
        due("rule(1)", x.rule(1), 999);
        x.plan(5);
        due("runs(4)", x.runs(4), 0);
        x.keep(0);
        due("back(0)", x.back(0), 999);
    }

    @Says("THE QUEUE, of those who WAIT: first those who WEPT, by how lately, of several by order;")
    static void byHowLately() {
        TearsQueue x = Checks.told("soft 1;soft 2;soft 1;dry;room 1;");
        x.minutes(1);
        due("thinks(1), of 5", x.thinks(1), 2);
        Sentences.queueIs(x, 1, 0, 2, 3);
        x.minutes(1);
        due("thinks(2), of 1 and 4", x.thinks(2), 4);
        Sentences.queueIs(x, 2, 1, 0, 3);
        due("thinks(0), of 1 and 4", x.thinks(0), 1);
        Sentences.queueIs(x, 0, 2, 1, 3);
        x.tram();
        Sentences.queueIs(x, 2, 1, 3);
    }

    @Says("then those who never WEPT, by order;")
    static void whoNeverWept() {
        Sentences.queueIs(Checks.told("dry;sham 1;soft 4;plain 40;sham 3;"), 0, 1, 2, 3, 4);
        TearsQueue x = Checks.told("dry;plain;soft 1;");
        x.thinks(2);
        Sentences.queueIs(x, 2, 0, 1);
        x.joy(2);
        Sentences.queueIs(x, 0, 1, 2);
    }

    @Says("but shams with SORROW 0 are behind all others, by order.")
    static void frost() {
        Sentences.queueIs(Checks.told("sham;sham 1;sham;dry;soft;"), 1, 3, 4, 0, 2);
        Sentences.queueIs(Checks.told("sham;sham;sham;"), 0, 1, 2);
        TearsQueue x = Checks.told("sham;sham;dry;");
        due("thinks(1)", x.thinks(1), 2);
        Sentences.queueIs(x, 0, 2, 1);
        x.alter(0, 1, 0);
        Sentences.queueIs(x, 2, 0, 1);
        x.alter(1, 1, 1);
        Sentences.queueIs(x, 1, 2, 0);
        x.minutes(1);
        Sentences.queueIs(x, 2, 0, 1);
        x.alter(2, 0, 2);
        Sentences.queueIs(x, 2, 0, 1);
        x.alter(2, 1, 0);
        Sentences.queueIs(x, 0, 1, 2);
    }

    @Says("A TRAM comes: as many of THE QUEUE as there is ROOM, from its first on, are GONE.")
    static void tram() {
        int[] gone = {16, 17, 19, 23, 31};
        for (int room = 1; room <= 5; room++) {
            TearsQueue x = Checks.told("dry;dry;dry;dry;soft 1;room " + room + ";");
            x.thinks(4);
            due("tram() of ROOM " + room, x.tram(), gone[room - 1]);
        }
        TearsQueue two = Checks.told("dry;sham;room 5;");
        due("tram(), more ROOM than PEOPLE", two.tram(), 3);
        due("tram(), nobody WAITS", two.tram(), 0);
        due("tram(), there is nobody", new TearsQueue().tram(), 0);
    }

    @Says("BY THE PLAN: its ACTS from now on;")
    static void fromNowOn() {
        TearsQueue x = Checks.told("soft;dry;room 1;plan 0 5 6;");
        due("ahead(0, 0)", x.ahead(0, 0), 3);
        due("runs(0)", x.runs(0), 1);
        x.minutes(7);
        x.thinks(0);
        x.tram();
        due("runs(0)", x.runs(0), 3);
        x.second();
        due("ahead(0, 1), from MINUTE 7", x.ahead(0, 1), 7);
        due("ahead(0, 1), again", x.ahead(0, 1), 7);
        x.cut(0);
        due("runs(0), no ACTS", x.runs(0), 0);
    }

    @Says("a ONE who is GONE does not THINK, that is passed over.")
    static void passedOver() {
        TearsQueue x = Checks.told("soft 1;dry;room 1;plan 6 0 1;");
        due("runs(0)", x.runs(0), 1);
        due("runs(1)", x.runs(1), 0);
        due("runs(3)", x.runs(3), 1);
        due("ahead(0, 0)", x.ahead(0, 0), 1);
        due("ahead(1, 0), the ACTS go on", x.ahead(1, 0), 4);
    }

    @Says("SEEN (6): BY THE PLAN a ONE is GONE, or not.")
    static void seen() {
        TearsQueue x = Checks.told("dry;dry;room 1;plan 6;");
        for (int i = 1; i <= 3; i++) {
            due("see(0, true)", x.see(0, true), 2 * i - 1);
            due("see(1, false)", x.see(1, false), 2 * i);
        }
        due("see(0, true)", x.see(0, true), FULL);
        due("see(0, false)", x.see(0, false), FULL);
        due("kinds(0)", x.kinds(0), 11);
    }

    @Says("SHEETS 0 to 3 are rows of BYTES (lane 0), SHORTS (1), INTS (2)")
    static void sheets() {
        TearsQueue x = new TearsQueue();
        for (int k = 0; k < 4; k++) {
            for (int lane = 0; lane < 3; lane++) {
                due("sheet(" + k + ", " + lane + ", 1)", x.sheet(k, lane, 1), 1);
                x.lay(k, 0, 5);
                due("read(" + k + ", " + lane + ", 0, 1)", x.read(k, lane, 0, 1), 1);
            }
            due("sheet(" + k + ", 3, 1)", x.sheet(k, 3, 1), BAD);
            due("sheet(" + k + ", -1, 1)", x.sheet(k, -1, 1), BAD);
        }
        due("sheet(4, 0, 1)", x.sheet(4, 0, 1), BAD);
        due("sheet(-1, 0, 1)", x.sheet(-1, 0, 1), BAD);
    }

    @Says("with 0 to 40 CELLS,")
    static void cells() {
        for (int lane = 0; lane < 3; lane++) {
            TearsQueue x = new TearsQueue();
            due("sheet(0, lane, 0)", x.sheet(0, lane, 0), 1);
            due("count(3)", x.count(3), 0);
            due("lay(0, 0, 5)", x.lay(0, 0, 5), -12);
            due("sheet(0, lane, 40)", x.sheet(0, lane, 40), 1);
            due("count(3)", x.count(3), 40);
            due("lay(0, 39, 5)", x.lay(0, 39, 5), 1);
            due("lay(0, 40, 5)", x.lay(0, 40, 5), -12);
            due("read(0, lane, 39, 1)", x.read(0, lane, 39, 1), 1);
            due("sheet(0, lane, 41)", x.sheet(0, lane, 41), BAD);
        }
    }

    @Says("or nothing (at first).")
    static void nothingAtFirst() {
        TearsQueue x = new TearsQueue();
        due("count(3)", x.count(3), NONE);
        for (int k = 0; k < 4; k++) {
            for (int lane = 0; lane < 3; lane++) {
                due("read(" + k + ", " + lane + ", 0, 1)", x.read(k, lane, 0, 1), 0);
                due("torn()", x.torn(), 1);
            }
        }
    }

    @Says("A FAULT is what the machine finds: 1 NULL (nothing), 2 INDEX, 3 CAST (another lane), 4 SIZE (below 0).")
    static void faults() {
        TearsQueue x = new TearsQueue();
        due("lay(0, 0, 0), NULL", x.lay(0, 0, 0), -11);
        x.sheet(0, 1, 2);
        due("lay(0, 2, 0), INDEX", x.lay(0, 2, 0), -12);
        x.read(1, 0, 0, 1);
        due("torn(), NULL", x.torn(), 1);
        x.read(0, 1, 2, 1);
        due("torn(), INDEX", x.torn(), 2);
        x.read(0, 0, 0, 1);
        due("torn(), CAST", x.torn(), 3);
        x.read(0, 2, 0, 1);
        due("torn(), CAST", x.torn(), 3);
        due("sheet(0, 0, -1), SIZE", x.sheet(0, 0, -1), -14);
    }
}
