/** Promises 10 to 19, sentence by sentence: what is changed, what is done of an evening. */
public final class EveningEdges {
    private static final int BAD = Sentences.BAD, STATE = Sentences.STATE;
    private static final int FULL = Sentences.FULL, NONE = Sentences.NONE;

    public static void main(String[] args) throws ReflectiveOperationException {
        Sentences.run(EveningEdges.class);
    }

    private static void due(String call, long got, long want) {
        Sentences.due(call, got, want);
    }

    @Says(of = 10, value = "KIND, SORROW (what 0, 1) of a ONE becomes v: what it was.")
    static void alter() {
        TearsQueue x = Checks.told("plain 3;dry;room 1;");
        for (int kind = 0; kind < 4; kind++) {
            due("alter(1, 0, " + kind + ")", x.alter(1, 0, kind), kind == 0 ? 3 : kind - 1);
        }
        due("alter(1, 0, 3), as it is", x.alter(1, 0, 3), 3);
        due("alter(0, 1, 0)", x.alter(0, 1, 0), 3);
        due("alter(0, 1, 40)", x.alter(0, 1, 40), 0);
        due("one(0, 0), KIND stays", x.one(0, 0), 0);
        due("one(0, 1)", x.one(0, 1), 40);
        due("one(0, 2), nobody WEEPS by it", x.one(0, 2), NONE);
        due("rule(6)", x.rule(6), 40);
        due("alter(0, 0, 2)", x.alter(0, 0, 2), 0);
        due("one(0, 1), SORROW stays", x.one(0, 1), 40);
        x.tram();
        due("alter(0, 1, 7), of a ONE who is GONE", x.alter(0, 1, 7), 40);
        due("one(0, 1)", x.one(0, 1), 7);
        due("one(0, 4), he stays so", x.one(0, 4), 1);
    }

    @Says(of = 10, value = "BAD.")
    static void alterBad() {
        for (int p : Sentences.beyond(0, 4)) {
            Sentences.leavesAll("alter(" + p + ", 0, 1)", x -> x.alter(p, 0, 1), BAD);
            Sentences.leavesAll("alter(" + p + ", 1, 1)", x -> x.alter(p, 1, 1), BAD);
        }
        for (int what : Sentences.beyond(0, 1)) {
            Sentences.leavesAll("alter(0, " + what + ", 1)", x -> x.alter(0, what, 1), BAD);
        }
        for (int kind : Sentences.beyond(0, 3)) {
            Sentences.leavesAll("alter(0, 0, " + kind + ")", x -> x.alter(0, 0, kind), BAD);
        }
        for (int sorrow : Sentences.beyond(0, 40)) {
            Sentences.leavesAll("alter(0, 1, " + sorrow + ")", x -> x.alter(0, 1, sorrow), BAD);
        }
        due("alter(0, 0, 0), nobody", new TearsQueue().alter(0, 0, 0), BAD);
    }

    @Says(of = 11, value = "ROOM becomes v: what it was.")
    static void room() {
        TearsQueue x = new TearsQueue();
        for (int v = 1; v <= 5; v++) {
            due("room(" + v + ")", x.room(v), v == 1 ? 2 : v - 1);
            due("rule(2)", x.rule(2), v);
        }
    }

    @Says(of = 11, value = "BAD.")
    static void roomBad() {
        for (int v : Sentences.beyond(1, 5)) {
            Sentences.leavesAll("room(" + v + ")", x -> x.room(v), BAD);
        }
    }

    @Says(of = 12, value = "THINK becomes v: what it was.")
    static void think() {
        TearsQueue x = new TearsQueue();
        for (int v = 1; v <= 9; v++) {
            due("think(" + v + ")", x.think(v), v == 1 ? 4 : v - 1);
            due("rule(3)", x.rule(3), v);
        }
    }

    @Says(of = 12, value = "BAD.")
    static void thinkBad() {
        for (int v : Sentences.beyond(1, 9)) {
            Sentences.leavesAll("think(" + v + ")", x -> x.think(v), BAD);
        }
    }

    @Says(of = 13, value = "An ACT more in THE PLAN (a ONE that there is, a MINUTE, a TRAM): how many it has.")
    static void plan() {
        TearsQueue x = Checks.told("dry;dry;dry;dry;dry;room 5;");
        for (int act = 0; act <= 6; act++) {
            due("plan(" + act + ")", x.plan(act), act + 1);
            due("act(" + act + ")", x.act(act), act);
        }
        due("plan(0), the 8th", x.plan(0), 8);
        TearsQueue nobody = new TearsQueue();
        due("plan(5), nobody", nobody.plan(5), 1);
        due("plan(6), nobody", nobody.plan(6), 2);
        TearsQueue gone = Checks.told("dry;");
        gone.tram();
        due("plan(0), he is GONE, but there", gone.plan(0), 1);
    }

    @Says(of = 13, value = "BAD;")
    static void planBad() {
        for (int act : Sentences.beyond(0, 6)) {
            Sentences.leavesAll("plan(" + act + "), also in a full PLAN", x -> x.plan(act), BAD);
        }
        for (int act = 0; act < 5; act++) {
            int p = act;
            Sentences.leavesAll(TearsQueue::new, "plan(" + p + "), nobody", x -> x.plan(p), BAD);
        }
        TearsQueue x = Checks.told("dry;dry;");
        due("plan(2), of two", x.plan(2), BAD);
        due("plan(1), of two", x.plan(1), 1);
    }

    @Says(of = 13, value = "FULL.")
    static void planFull() {
        for (int act = 0; act <= 6; act++) {
            int ninth = act;
            Sentences.leavesAll("plan(" + act + "), a 9th", x -> x.plan(ninth), FULL);
        }
        TearsQueue x = Checks.told(Busy.TEXT);
        x.cut(7);
        due("plan(5), an 8th", x.plan(5), 8);
        due("plan(5), a 9th", x.plan(5), FULL);
    }

    @Says(of = 14, value = "THE PLAN has its first n ACTS alone: how many it had.")
    static void cut() {
        TearsQueue x = Checks.told(Busy.TEXT);
        due("cut(8), all", x.cut(8), 8);
        due("cut(3)", x.cut(3), 8);
        due("rule(4)", x.rule(4), 3);
        due("act(2)", x.act(2), 5);
        due("act(3)", x.act(3), BAD);
        due("count(5)", x.count(5), 0);
        due("cut(0)", x.cut(0), 3);
        due("cut(0), of none", x.cut(0), 0);
        due("rule(4)", x.rule(4), 0);
    }

    @Says(of = 14, value = "BAD.")
    static void cutBad() {
        for (int n : Sentences.beyond(0, 8)) {
            Sentences.leavesAll("cut(" + n + ")", x -> x.cut(n), BAD);
        }
        Sentences.leavesAll(TearsQueue::new, "cut(1), of none", x -> x.cut(1), BAD);
    }

    @Says(of = 15, value = "A ONE THINKS: who WEPT by it (bits).")
    static void thinks() {
        due("thinks(0), nobody WEEPS", Checks.told("dry;").thinks(0), 0);
        due("thinks(0), he WEEPS", Checks.told("soft 1;dry;").thinks(0), 1);
        due("thinks(0), another WEEPS", Checks.told("dry;dry;dry;dry;soft 5;").thinks(0), 16);
        due("thinks(2), all WEEP", Checks.told("soft 4;soft 4;soft 4;soft 4;soft 4;").thinks(2), 31);
        TearsQueue x = Checks.told("soft 1;dry;");
        x.plan(0);
        x.thinks(0);
        due("rule(4), THE PLAN stays", x.rule(4), 1);
        due("rule(1), MINUTE stays", x.rule(1), 0);
    }

    @Says(of = 15, value = "BAD;")
    static void thinksBad() {
        for (int p : Sentences.beyond(0, 4)) {
            Sentences.leavesAll("thinks(" + p + ")", x -> x.thinks(p), BAD);
        }
        Sentences.leavesAll(TearsQueue::new, "thinks(0), nobody", x -> x.thinks(0), BAD);
        due("thinks(1), of one", Checks.told("dry;").thinks(1), BAD);
    }

    @Says(of = 15, value = "STATE: he is GONE.")
    static void thinksState() {
        Sentences.leavesAll("thinks(4)", x -> x.thinks(4), STATE);
        TearsQueue x = Checks.told("soft 5;soft 5;room 1;");
        x.tram();
        due("thinks(0), though others are brimful", x.thinks(0), STATE);
        due("one(1, 2), who did not weep by it", x.one(1, 2), NONE);
    }

    @Says(of = 16, value = "n MINUTES go (0 to 60): all SORROW of those who WAIT then.")
    static void minutes() {
        TearsQueue x = Checks.told("dry 40;dry 3;dry 40;room 1;");
        due("minutes(0)", x.minutes(0), 83);
        due("rule(1)", x.rule(1), 0);
        due("minutes(2)", x.minutes(2), 38 + 1 + 38);
        x.tram();
        due("minutes(10), without the GONE", x.minutes(10), 28);
        due("one(0, 1), who is GONE", x.one(0, 1), 38);
        due("minutes(60)", x.minutes(60), 0);
        due("rule(1)", x.rule(1), 72);
        due("minutes(60), nobody", new TearsQueue().minutes(60), 0);
        due("minutes(36), nobody WEEPS by it", Checks.told("sham 40;").minutes(36), 4);
    }

    @Says(of = 16, value = "BAD.")
    static void minutesBad() {
        for (int n : Sentences.beyond(0, 60)) {
            Sentences.leavesAll("minutes(" + n + ")", x -> x.minutes(n), BAD);
        }
    }

    @Says(of = 17, value = "A TRAM comes: who is GONE by it (bits).")
    static void tram() {
        TearsQueue x = Checks.told("dry;dry;dry;dry;soft 1;");
        x.thinks(4);
        due("tram()", x.tram(), 17);
        due("tram(), without those who were GONE", x.tram(), 6);
        due("tram(), less than there is ROOM", x.tram(), 8);
        due("tram(), nobody WAITS", x.tram(), 0);
        due("rule(5)", x.rule(5), 0);
        due("rule(1), MINUTE stays", x.rule(1), 0);
        due("tram(), there is nobody", new TearsQueue().tram(), 0);
        due("tram(), frost is no hindrance where there is ROOM", Checks.told("sham;sham;").tram(), 3);
    }

    @Says(of = 18, value = "News of joy: a ONE's SORROW is 0, and he never WEPT: what SORROW was.")
    static void joy() {
        TearsQueue x = Checks.told("soft 1;dry 40;dry;");
        due("joy(1)", x.joy(1), 40);
        due("one(1, 1)", x.one(1, 1), 0);
        due("joy(1), again", x.joy(1), 0);
        due("thinks(0)", x.thinks(0), 1);
        due("count(4)", x.count(4), 1);
        due("joy(0)", x.joy(0), 0);
        due("one(0, 2)", x.one(0, 2), NONE);
        due("count(4)", x.count(4), 0);
        Sentences.queueIs(x, 0, 1, 2);
        due("one(1, 1), the others stay", x.one(1, 1), 2);
    }

    @Says(of = 18, value = "BAD;")
    static void joyBad() {
        for (int p : Sentences.beyond(0, 4)) {
            Sentences.leavesAll("joy(" + p + ")", x -> x.joy(p), BAD);
        }
        Sentences.leavesAll(TearsQueue::new, "joy(0), nobody", x -> x.joy(0), BAD);
    }

    @Says(of = 18, value = "STATE: he is GONE.")
    static void joyState() {
        Sentences.leavesAll("joy(4)", x -> x.joy(4), STATE);
    }

    @Says(of = 19, value = "All who are GONE WAIT again, as they were when they went: how many they are.")
    static void second() {
        due("second(), there is nobody", new TearsQueue().second(), 0);
        TearsQueue x = Checks.told("soft 1;dry 7;dry 7;dry;sham;room 5;");
        due("second(), nobody is GONE", x.second(), 0);
        x.minutes(1);
        x.alter(0, 1, 1);
        x.thinks(0);
        x.room(2);
        x.tram();
        x.minutes(3);
        due("second()", x.second(), 2);
        due("one(0, 1)", x.one(0, 1), 0);
        due("one(0, 2)", x.one(0, 2), 1);
        due("one(1, 1), not dried", x.one(1, 1), 6 + 2);
        due("one(2, 1), dried", x.one(2, 1), 3);
        due("rule(1), MINUTE stays", x.rule(1), 4);
        Sentences.queueIs(x, 0, 1, 2, 3, 4);
        due("second(), again", x.second(), 0);
        x.room(5);
        x.tram();
        due("second(), all", x.second(), 5);
        due("rule(5)", x.rule(5), 31);
    }
}
