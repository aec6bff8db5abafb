/** Promises 35 to 41, sentence by sentence: images, sheets, how many there are. */
public final class SheetEdges {
    private static final int BAD = Sentences.BAD, STATE = Sentences.STATE, NONE = Sentences.NONE;

    public static void main(String[] args) throws ReflectiveOperationException {
        Sentences.run(SheetEdges.class);
    }

    private static void due(String call, long got, long want) {
        Sentences.due(call, got, want);
    }

    private static void layAll(TearsQueue x, int k, int lane, int... cells) {
        due("sheet", x.sheet(k, lane, cells.length), 1);
        for (int i = 0; i < cells.length; i++) {
            due("lay", x.lay(k, i, cells[i]), 1);
        }
    }

    private static int[] times(int n, int act) {
        int[] cells = new int[n];
        java.util.Arrays.fill(cells, act);
        return cells;
    }

    @Says(of = 35, value = "IMAGE k (0, 1) is PEOPLE (all of them), MINUTE, ROOM, THINK, THE PLAN:")
    static void keep() {
        for (int k = 0; k < 2; k++) {
            TearsQueue x = Checks.told("soft 1;plain 6;dry 9;room 1;think 4;plan 0 6;");
            x.minutes(2);
            x.alter(0, 1, 1);
            x.thinks(0);
            x.tram();
            x.keep(k);
            String kept = Busy.shown(x);
            x.second();
            x.joy(0);
            x.alter(1, 0, 3);
            x.alter(2, 1, 40);
            x.minutes(60);
            x.room(5);
            x.think(9);
            x.cut(1);
            x.plan(5);
            x.plan(5);
            due("back(" + k + ")", x.back(k), 2);
            // IMAGES are counted in what is shown, and there was this one before.
            Checks.holds("IMAGE " + k + " is not as it was", Busy.shown(x).equals(kept));
        }
    }

    @Says(of = 35, value = "whether there was one (1, 0).")
    static void keepAgain() {
        TearsQueue x = new TearsQueue();
        due("keep(0)", x.keep(0), 0);
        due("keep(0)", x.keep(0), 1);
        due("keep(1)", x.keep(1), 0);
        due("keep(1)", x.keep(1), 1);
        x.minutes(5);
        due("keep(0), in place of it", x.keep(0), 1);
        due("back(1)", x.back(1), 0);
        due("back(0)", x.back(0), 5);
        x.text();
        due("keep(1), IMAGES were gone", x.keep(1), 0);
    }

    @Says(of = 35, value = "BAD.")
    static void keepBad() {
        for (int k : Sentences.beyond(0, 1)) {
            Sentences.leavesAll("keep(" + k + ")", x -> x.keep(k), BAD);
        }
    }

    @Says(of = 36, value = "All is as IMAGE k: MINUTE.")
    static void back() {
        TearsQueue x = Checks.told("dry 9;dry 9;room 1;");
        x.keep(0);
        x.minutes(60);
        x.tram();
        x.keep(1);
        due("back(0)", x.back(0), 0);
        due("rule(5)", x.rule(5), 3);
        due("rule(6)", x.rule(6), 18);
        due("back(1)", x.back(1), 60);
        due("rule(5)", x.rule(5), 2);
        x.minutes(5);
        due("back(1), it stays", x.back(1), 60);
        due("count(1)", x.count(1), 2);
        x.see(0, true);
        x.feed('?');
        x.sheet(0, 0, 7);
        x.back(0);
        due("count(0), what is no part of it stays", x.count(0), 1);
        due("count(2)", x.count(2), 1);
        due("count(3)", x.count(3), 7);
    }

    @Says(of = 36, value = "BAD;")
    static void backBad() {
        for (int k : Sentences.beyond(0, 1)) {
            Sentences.leavesAll("back(" + k + ")", x -> x.back(k), BAD);
        }
    }

    @Says(of = 36, value = "STATE: there is none.")
    static void backState() {
        Sentences.leavesAll("back(1)", x -> x.back(1), STATE);
        Sentences.leavesAll(TearsQueue::new, "back(0)", x -> x.back(0), STATE);
    }

    @Says(of = 37, value = "A SHEET is a new row of CELLS 0: 1.")
    static void sheet() {
        TearsQueue x = Checks.told("dry;dry;");
        for (int k = 0; k < 4; k++) {
            layAll(x, k, k % 3, 1, 1);
            due("sheet(" + k + ", lane, 3), a new one", x.sheet(k, (k + 1) % 3, 3), 1);
            due("read(" + k + ", lane, 0, 3), all are 0", x.read(k, (k + 1) % 3, 0, 3), 3);
            due("one(1, 1), who thought by no CELL", x.one(1, 1), 0);
            due("read(" + k + ", lane, 3, 1), no more of them", x.read(k, (k + 1) % 3, 3, 1), 0);
            x.alter(0, 1, 0);
        }
        due("sheet(0, 2, 0)", x.sheet(0, 2, 0), 1);
        due("count(3)", x.count(3), 0);
        due("sheet(0, 2, 40)", x.sheet(0, 2, 40), 1);
        due("count(3)", x.count(3), 40);
    }

    @Says(of = 37, value = "BAD: also n above 40;")
    static void sheetBad() {
        for (int k : Sentences.beyond(0, 3)) {
            Sentences.leavesAll("sheet(" + k + ", 0, 1)", x -> x.sheet(k, 0, 1), BAD);
            Sentences.leavesAll("sheet(" + k + ", 0, -1), ahead of SIZE", x -> x.sheet(k, 0, -1), BAD);
        }
        for (int lane : Sentences.beyond(0, 2)) {
            Sentences.leavesAll("sheet(0, " + lane + ", 1)", x -> x.sheet(0, lane, 1), BAD);
            Sentences.leavesAll("sheet(0, " + lane + ", -1), ahead of SIZE", x -> x.sheet(0, lane, -1), BAD);
        }
        Sentences.leavesAll("sheet(0, 0, 41)", x -> x.sheet(0, 0, 41), BAD);
        Sentences.leavesAll("sheet(3, 2, MAX)", x -> x.sheet(3, 2, Integer.MAX_VALUE), BAD);
    }

    @Says(of = 37, value = "-10 - 4.")
    static void sheetSize() {
        for (int lane = 0; lane < 3; lane++) {
            int of = lane;
            Sentences.leavesAll("sheet(0, " + lane + ", -1)", x -> x.sheet(0, of, -1), -14);
            Sentences.leavesAll("sheet(3, " + lane + ", MIN)", x -> x.sheet(3, of, Integer.MIN_VALUE), -14);
        }
    }

    @Says(of = 38, value = "CELL i of a SHEET becomes v (its lowest bits): 1.")
    static void lay() {
        TearsQueue x = Checks.told("plain;");
        int[] values = {5, 256 + 5, 65536 + 5, -256 + 5, -65536 + 5, Integer.MIN_VALUE + 5, 128 + 5, 32768 + 5};
        // As BYTES, SHORTS, INTS: whether it is 5 then.
        int[] fives = {7, 1, 3, 1, 3, 3, 0, 1};
        for (int lane = 0; lane < 3; lane++) {
            x.sheet(lane, lane, 1);
            for (int i = 0; i < values.length; i++) {
                due("lay(" + lane + ", 0, " + values[i] + ")", x.lay(lane, 0, values[i]), 1);
                boolean isFive = (fives[i] >> lane & 1) == 1;
                due("read of lane " + lane + ", " + values[i], x.read(lane, lane, 0, 1), isFive ? 1 : -20);
            }
        }
        layAll(x, 3, 0, times(40, 5));
        due("lay(3, 39, 6), the last", x.lay(3, 39, 6), 1);
        due("read(3, 0, 38, 1), the one before stays", x.read(3, 0, 38, 1), 1);
        due("rule(5)", x.rule(5), 1);
        due("read(3, 0, 39, 1)", x.read(3, 0, 39, 1), 1);
        due("rule(5)", x.rule(5), 0);
    }

    @Says(of = 38, value = "BAD: k;")
    static void layBad() {
        for (int k : Sentences.beyond(0, 3)) {
            Sentences.leavesAll("lay(" + k + ", 0, 0)", x -> x.lay(k, 0, 0), BAD);
            Sentences.leavesAll("lay(" + k + ", -1, 0)", x -> x.lay(k, -1, 0), BAD);
        }
    }

    @Says(of = 38, value = "-10 less the FAULT: NULL, INDEX.")
    static void layFaults() {
        int[] places = {-1, 0, 40, Integer.MIN_VALUE, Integer.MAX_VALUE};
        for (int i : places) {
            Sentences.leavesAll("lay(3, " + i + ", 5), NULL", x -> x.lay(3, i, 5), -11);
            Sentences.leavesAll("lay(2, " + i + ", 5), of no CELLS", x -> x.lay(2, i, 5), -12);
        }
        for (int i : Sentences.beyond(0, 2)) {
            Sentences.leavesAll("lay(0, " + i + ", 5)", x -> x.lay(0, i, 5), -12);
        }
        TearsQueue x = new TearsQueue();
        x.sheet(1, 2, 40);
        due("lay(1, 39, 5)", x.lay(1, 39, 5), 1);
        due("lay(1, 40, 5)", x.lay(1, 40, 5), -12);
        due("torn(), it is asked of read() alone", x.torn(), 0);
    }

    @Says(of = 39, value = "n (0 to 20) ACTS are read of a SHEET taken as of a lane, from CELL f on,")
    static void readLength() {
        for (int lane = 0; lane < 3; lane++) {
            TearsQueue x = new TearsQueue();
            layAll(x, 3, lane, times(40, 5));
            due("read(3, lane, 0, 0)", x.read(3, lane, 0, 0), 0);
            due("rule(1)", x.rule(1), 0);
            due("read(3, lane, 0, 20)", x.read(3, lane, 0, 20), 20);
            due("rule(1)", x.rule(1), 20);
            due("read(3, lane, 20, 20)", x.read(3, lane, 20, 20), 20);
            due("read(3, lane, 39, 1)", x.read(3, lane, 39, 1), 1);
            due("rule(1)", x.rule(1), 41);
            due("read(3, lane, 0, 21)", x.read(3, lane, 0, 21), BAD);
            x.lay(3, 7, 6);
            due("read(3, lane, 7, 1), CELL 7 alone", x.read(3, lane, 7, 1), 1);
            due("rule(1)", x.rule(1), 41);
        }
    }

    @Says(of = 39, value = "one behind another done at once: how many were.")
    static void readDone() {
        TearsQueue x = Checks.told("plain 6;soft 1;dry;room 1;plan 6 6;");
        layAll(x, 0, 0, 5, 0, 1, 6, 2);
        // 5, 0, 0; 0 thinks: 9; 1 thinks: 4; 0 goes; 2 thinks: 4
        due("read(0, 0, 0, 5)", x.read(0, 0, 0, 5), 5);
        int[] rules = {3, 1, 1, 4, 2, 6, 8};
        for (int what = 0; what < 7; what++) {
            due("rule(" + what + ")", x.rule(what), rules[what]);
        }
        due("one(0, 1)", x.one(0, 1), 9);
        layAll(x, 0, 0, 1);
        due("read(0, 0, 0, 1)", x.read(0, 0, 0, 1), 1);
        due("one(1, 2), he WEPT", x.one(1, 2), 1);
        due("one(2, 1), and set another off", x.one(2, 1), 6);
    }

    @Says(of = 39, value = "What the machine refuses: those ahead were (its FAULT is asked by torn()).")
    static void readRefused() {
        TearsQueue x = Checks.told("dry;");
        layAll(x, 0, 0, times(40, 5));
        due("read(0, 0, 38, 5), INDEX", x.read(0, 0, 38, 5), 2);
        due("rule(1), two were done", x.rule(1), 2);
        due("torn()", x.torn(), 2);
        due("read(0, 0, 40, 1)", x.read(0, 0, 40, 1), 0);
        due("read(0, 0, -1, 20), ahead of the first CELL", x.read(0, 0, -1, 20), 0);
        due("read(0, 0, MAX, 20)", x.read(0, 0, Integer.MAX_VALUE, 20), 0);
        due("read(0, 0, MIN, 20)", x.read(0, 0, Integer.MIN_VALUE, 20), 0);
        due("torn()", x.torn(), 2);
        due("read(0, 1, 0, 1), CAST", x.read(0, 1, 0, 1), 0);
        due("torn()", x.torn(), 3);
        due("read(0, 2, 40, 1), CAST ahead of INDEX", x.read(0, 2, 40, 1), 0);
        due("torn()", x.torn(), 3);
        due("read(1, 0, -1, 1), NULL ahead of INDEX", x.read(1, 0, -1, 1), 0);
        due("torn()", x.torn(), 1);
        x.sheet(2, 1, 0);
        due("read(2, 1, 0, 1), of no CELLS", x.read(2, 1, 0, 1), 0);
        due("torn()", x.torn(), 2);
        due("rule(1), none of these was done", x.rule(1), 2);
    }

    @Says(of = 39, value = "BAD: k, lane, n;")
    static void readBad() {
        for (int k : Sentences.beyond(0, 3)) {
            Sentences.leavesAll("read(" + k + ", 0, 0, 1)", x -> x.read(k, 0, 0, 1), BAD);
        }
        for (int lane : Sentences.beyond(0, 2)) {
            Sentences.leavesAll("read(0, " + lane + ", 0, 1)", x -> x.read(0, lane, 0, 1), BAD);
            Sentences.leavesAll("read(3, " + lane + ", 0, 1), also of nothing", x -> x.read(3, lane, 0, 1), BAD);
        }
        for (int n : Sentences.beyond(0, 20)) {
            Sentences.leavesAll("read(0, 0, 0, " + n + ")", x -> x.read(0, 0, 0, n), BAD);
        }
    }

    @Says(of = 39, value = "-20 less i: the i-th is none, or of a ONE that there is not, that is GONE:")
    static void readNoAct() {
        TearsQueue x = Checks.told("dry;dry;room 1;");
        int[] none = {-1, 7, 100, -128, 2, 3, 4};
        for (int act : none) {
            layAll(x, 0, 0, 5, act);
            due("read, the 1st is " + act, x.read(0, 0, 0, 2), -21);
            due("read, the 0th is " + act, x.read(0, 0, 1, 1), -20);
        }
        layAll(x, 1, 2, times(20, 5));
        x.lay(1, 19, Integer.MIN_VALUE);
        due("read, the 19th is none", x.read(1, 2, 0, 20), -39);
        layAll(x, 1, 1, 0, 6, 1, 0);
        due("read, 0 is GONE by the TRAM ahead", x.read(1, 1, 0, 4), -23);
        x.tram();
        due("read, 0 is GONE", x.read(1, 1, 0, 1), -20);
    }

    @Says(of = 39, value = "then none was;")
    static void readPutsBack() {
        Sentences.leavesAll(SheetEdges::withSheet, "read, the last is none", x -> x.read(3, 0, 0, 5), -24);
        Sentences.leavesAll(SheetEdges::withSheet, "read, 4 is GONE", x -> x.read(3, 0, 4, 2), -20);
    }

    private static TearsQueue withSheet() {
        TearsQueue x = Busy.made();
        int[] cells = {0, 5, 6, 1, 4};
        x.sheet(3, 0, cells.length);
        for (int i = 0; i < cells.length; i++) {
            x.lay(3, i, cells[i]);
        }
        return x;
    }

    @Says(of = 39, value = "the first met.")
    static void readFirstMet() {
        TearsQueue x = Checks.told("dry;");
        layAll(x, 0, 0, 5, 9, 8);
        due("read, two are none", x.read(0, 0, 0, 3), -21);
        due("read, one is none, then INDEX", x.read(0, 0, 1, 3), -20);
        layAll(x, 0, 0, 5, 5);
        due("read, INDEX ahead of more", x.read(0, 0, 0, 9), 2);
        due("read, CAST ahead of one that is none", x.read(0, 1, 0, 1), 0);
    }

    @Says(of = 40, value = "The FAULT of the latest read() that came to an end;")
    static void torn() {
        TearsQueue x = Checks.told("dry;");
        x.read(0, 0, 0, 1);
        due("torn(), NULL", x.torn(), 1);
        layAll(x, 0, 0, 5, 9);
        x.read(0, 0, 0, 2);
        due("torn(), the read that answered -21 came to none", x.torn(), 1);
        x.read(0, 0, 0, 21);
        x.read(4, 0, 0, 1);
        x.read(0, 3, 0, 1);
        due("torn(), nor did those that were BAD", x.torn(), 1);
        x.read(0, 1, 0, 1);
        due("torn(), CAST", x.torn(), 3);
        x.lay(0, 40, 0);
        x.sheet(0, 0, -1);
        due("torn(), of read() alone", x.torn(), 3);
        x.text();
        due("torn(), a text tells nothing of it", x.torn(), 3);
        x.read(0, 0, 0, 1);
        due("torn(), by a read without one", x.torn(), 0);
        x.read(0, 0, 5, 1);
        due("torn(), INDEX", x.torn(), 2);
        x.read(0, 0, 0, 0);
        due("torn(), by a read of no ACTS", x.torn(), 0);
        Sentences.onlyAsks("torn()", TearsQueue::torn);
    }

    @Says(of = 40, value = "0.")
    static void tornAtFirst() {
        due("torn()", new TearsQueue().torn(), 0);
    }

    @Says(of = 41, value = "How many: 0 SEEN, 1 IMAGES, 2 bytes on THE TAPE,")
    static void counts() {
        TearsQueue x = Busy.made();
        int[] counts = {2, 1, 6};
        for (int what = 0; what < 3; what++) {
            due("count(" + what + ")", x.count(what), counts[what]);
        }
        x.keep(1);
        due("count(1), both", x.count(1), 2);
        due("count(0), at most", Busy.withAllSeen().count(0), 6);
        due("count(2), at most", Busy.withFullTape().count(2), 160);
        TearsQueue none = new TearsQueue();
        for (int what = 0; what < 3; what++) {
            due("count(" + what + "), at first", none.count(what), 0);
        }
        none.keep(1);
        due("count(1), IMAGE 1 alone", none.count(1), 1);
    }

    @Says(of = 41, value = "3 CELLS of SHEET 0 (NONE: nothing),")
    static void countCells() {
        TearsQueue x = new TearsQueue();
        due("count(3), nothing", x.count(3), NONE);
        x.sheet(1, 0, 9);
        due("count(3), nothing in SHEET 0", x.count(3), NONE);
        x.sheet(0, 0, -1);
        due("count(3), still nothing", x.count(3), NONE);
        x.sheet(0, 0, 0);
        due("count(3), no CELLS", x.count(3), 0);
        x.sheet(0, 2, 40);
        due("count(3)", x.count(3), 40);
    }

    @Says(of = 41, value = "4 who ever WEPT,")
    static void countWept() {
        TearsQueue x = Checks.told("soft 4;soft 4;soft 4;soft 4;soft 4;room 1;");
        due("count(4), nobody", x.count(4), 0);
        x.thinks(0);
        due("count(4), all", x.count(4), 5);
        x.tram();
        due("count(4), with the GONE", x.count(4), 5);
        x.joy(1);
        due("count(4), without him of the joy", x.count(4), 4);
    }

    @Says(of = 41, value = "5 TRAMS of THE PLAN.")
    static void countTrams() {
        TearsQueue x = new TearsQueue();
        due("count(5), no ACTS", x.count(5), 0);
        x.plan(5);
        due("count(5), no TRAM", x.count(5), 0);
        for (int i = 1; i <= 7; i++) {
            x.plan(6);
            due("count(5)", x.count(5), i);
        }
        x.cut(3);
        due("count(5), without those cut off", x.count(5), 2);
        due("count(5), the first and the last too", Checks.told("plan 6 5 6;").count(5), 2);
        due("count(5), at most", Checks.told("plan 6 6 6 6 6 6 6 6;").count(5), 8);
    }

    @Says(of = 41, value = "BAD.")
    static void countBad() {
        for (int what : Sentences.beyond(0, 5)) {
            Sentences.leavesAll("count(" + what + ")", x -> x.count(what), BAD);
        }
    }
}
