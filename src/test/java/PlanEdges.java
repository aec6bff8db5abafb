/** Promises 20 to 28, sentence by sentence: what comes BY THE PLAN, what is best, thoughts that fail. */
public final class PlanEdges {
    private static final int BAD = Sentences.BAD, STATE = Sentences.STATE, NONE = Sentences.NONE;
    private static final String TRAMS = "plain 6;plain 6;soft 1;room 1;plan 0 6 0 5 1 0;";

    public static void main(String[] args) throws ReflectiveOperationException {
        Sentences.run(PlanEdges.class);
    }

    private static void due(String call, long got, long want) {
        Sentences.due(call, got, want);
    }

    @Says(of = 20, value = "BY THE PLAN: who is GONE then (what 0; bits),")
    static void runsGone() {
        due("runs(0)", Checks.told(TRAMS).runs(0), 1);
        due("runs(0), no ACTS", Checks.told("dry;").runs(0), 0);
        due("runs(0), nobody", Checks.told("plan 6 6 5;").runs(0), 0);
        due("runs(0), eight TRAMS", Checks.told("dry;dry;dry;dry;dry;room 1;plan 6 6 6 6 6 6 6 6;").runs(0), 31);
        TearsQueue x = Checks.told("dry;dry;dry;room 1;plan 6;");
        x.tram();
        due("runs(0), with those who were GONE", x.runs(0), 3);
        Sentences.onlyAsks("runs(0)", y -> y.runs(0));
    }

    @Says(of = 20, value = "who WEPT in it (1; bits),")
    static void runsWept() {
        due("runs(1)", Checks.told(TRAMS).runs(1), 3);
        due("runs(1), no ACTS", Checks.told("soft 5;").runs(1), 0);
        TearsQueue x = Checks.told("soft 1;dry;plan 1 5;");
        x.thinks(0);
        due("runs(1), not who WEPT before", x.runs(1), 0);
        due("runs(1), one who is GONE then", Checks.told("soft 1;dry;room 1;plan 0 6;").runs(1), 1);
        Sentences.onlyAsks("runs(1)", y -> y.runs(1));
    }

    @Says(of = 20, value = "how often (2),")
    static void runsHowOften() {
        due("runs(2)", Checks.told(TRAMS).runs(2), 2);
        due("runs(2), of one", Checks.told("sham;plan 0 0 0 0 0 0 0 0;").runs(2), 8);
        due("runs(2), no ACTS", Checks.told("soft 5;").runs(2), 0);
        due("runs(2), of five", Checks.told("soft 4;soft 4;soft 4;soft 4;soft 4;plan 2;").runs(2), 5);
        Sentences.onlyAsks("runs(2)", y -> y.runs(2));
    }

    @Says(of = 20, value = "the first ACT that is passed over (3: its place; NONE),")
    static void runsPassedOver() {
        due("runs(3), two are", Checks.told(TRAMS).runs(3), 2);
        due("runs(3), no ACTS", Checks.told("dry;").runs(3), NONE);
        due("runs(3), none is", Checks.told("dry;plan 0 5 6 6 5;").runs(3), NONE);
        due("runs(3), the last", Checks.told("dry;plan 5 5 5 5 5 5 6 0;").runs(3), 7);
        TearsQueue x = Checks.told("dry;plan 0;");
        x.tram();
        due("runs(3), the first", x.runs(3), 0);
        Sentences.onlyAsks("runs(3)", y -> y.runs(3));
    }

    @Says(of = 20, value = "all SORROW of those who WAIT then (4).")
    static void runsSorrow() {
        due("runs(4)", Checks.told(TRAMS).runs(4), 2);
        due("runs(4), no ACTS", Checks.told("dry 40;dry 40;").runs(4), 80);
        due("runs(4), without the GONE", Checks.told("dry 40;dry 30;room 1;plan 6 5;").runs(4), 29);
        due("runs(4), nobody WAITS", Checks.told("dry 40;plan 6;").runs(4), 0);
        Sentences.onlyAsks("runs(4)", y -> y.runs(4));
    }

    @Says(of = 20, value = "BAD.")
    static void runsBad() {
        for (int what : Sentences.beyond(0, 4)) {
            Sentences.leavesAll("runs(" + what + ")", x -> x.runs(what), BAD);
        }
    }

    @Says(of = 21, value = "BY THE PLAN: SORROW of a ONE then (what 0),")
    static void aheadSorrow() {
        TearsQueue x = Checks.told(TRAMS);
        int[] sorrow = {0, 0, 2};
        for (int p = 0; p < 3; p++) {
            due("ahead(" + p + ", 0)", x.ahead(p, 0), sorrow[p]);
        }
        due("ahead(0, 0), no ACTS", Checks.told("dry 40;").ahead(0, 0), 40);
        due("ahead(0, 0), who is GONE does not dry", Checks.told("dry 9;plan 6 5 5;").ahead(0, 0), 9);
        due("ahead(0, 0), 0 at least", Checks.told("dry 1;plan 5 5 5;").ahead(0, 0), 0);
        Sentences.onlyAsks("ahead(0, 0)", y -> y.ahead(0, 0));
    }

    @Says(of = 21, value = "the MINUTE in which he WEPT last (1; NONE).")
    static void aheadWept() {
        TearsQueue x = Checks.told(TRAMS);
        int[] wept = {0, 1, NONE};
        for (int p = 0; p < 3; p++) {
            due("ahead(" + p + ", 1)", x.ahead(p, 1), wept[p]);
        }
        TearsQueue y = Checks.told("sham;dry;");
        y.thinks(0);
        due("ahead(0, 1), before THE PLAN", y.ahead(0, 1), 0);
        y.minutes(60);
        y.plan(5);
        y.plan(0);
        due("ahead(0, 1), the last", y.ahead(0, 1), 61);
        Sentences.onlyAsks("ahead(4, 1)", z -> z.ahead(4, 1));
    }

    @Says(of = 21, value = "BAD.")
    static void aheadBad() {
        for (int p : Sentences.beyond(0, 4)) {
            Sentences.leavesAll("ahead(" + p + ", 0)", x -> x.ahead(p, 0), BAD);
        }
        for (int what : Sentences.beyond(0, 1)) {
            Sentences.leavesAll("ahead(0, " + what + ")", x -> x.ahead(0, what), BAD);
        }
        due("ahead(0, 0), nobody", new TearsQueue().ahead(0, 0), BAD);
    }

    @Says(of = 22, value = "How often a ONE is to THINK now, one behind another, until he is the first of THE QUEUE (0 to 9).")
    static void soon() {
        TearsQueue x = Checks.told("dry;dry;think 2;");
        due("soon(0), he is", x.soon(0), 0);
        for (int sorrow = 2; sorrow <= 20; sorrow += 2) {
            x.alter(1, 1, sorrow);
            due("soon(1), of " + sorrow, x.soon(1), sorrow == 20 ? 1 : (20 - sorrow) / 2);
        }
        due("soon(2), a sham with SORROW left", Checks.told("dry;dry;sham;think 1;").soon(2), 5);
        due("soon(0), a sham WEEPS and is behind", Checks.told("sham;dry;").soon(0), NONE);
        due("soon(0), a sham THINKS, and has no frost", Checks.told("sham;dry;think 3;").soon(0), 1);
        Sentences.onlyAsks("soon(3)", y -> y.soon(3));
    }

    @Says(of = 22, value = "BAD;")
    static void soonBad() {
        for (int p : Sentences.beyond(0, 4)) {
            Sentences.leavesAll("soon(" + p + ")", x -> x.soon(p), BAD);
        }
        due("soon(0), nobody", new TearsQueue().soon(0), BAD);
    }

    @Says(of = 22, value = "NONE: he is not,")
    static void soonNever() {
        TearsQueue x = Checks.told("dry;dry 1;think 2;");
        due("soon(1), the 10th would be", x.soon(1), NONE);
        x.alter(1, 1, 2);
        due("soon(1), the 9th is", x.soon(1), 9);
        due("soon(1), the one ahead WEEPS with him", Checks.told("soft 4;soft 4;").soon(1), NONE);
    }

    @Says(of = 22, value = "he is GONE.")
    static void soonGone() {
        Sentences.leavesAll("soon(4)", x -> x.soon(4), NONE);
    }

    private static void bestIs(String text, int people, int often, int... row) {
        bestIs(Checks.told(text), people, often, row);
    }

    private static void bestIs(TearsQueue x, int people, int often, int... row) {
        int n = row.length;
        due("best(" + n + ", 0)", x.best(n, 0), people);
        due("best(" + n + ", 1)", x.best(n, 1), often);
        for (int i = 0; i < 4; i++) {
            due("best(" + n + ", " + (10 + i) + ")", x.best(n, 10 + i), i < n ? row[i] : NONE);
        }
    }

    @Says(of = 23, value = "The row of n ACTS (0 to 4;")
    static void bestLength() {
        bestIs("soft 5;dry;", 0, 0);
        bestIs("soft 5;dry;", 1, 1, 0);
        bestIs("sham;", 1, 4, 0, 0, 0, 0);
        due("best(5, 0)", Checks.told("sham;").best(5, 0), BAD);
        due("best(-1, 0)", Checks.told("sham;").best(-1, 0), BAD);
    }

    @Says(of = 23, value = "a ONE that there is THINKS, who is GONE is passed over; a MINUTE goes)")
    static void bestActs() {
        bestIs(new TearsQueue(), 0, 0, 5, 5, 5, 5);
        TearsQueue x = Checks.told("soft 4;plain 6;room 1;");
        x.tram();
        // 0 is GONE: that he THINKS is an ACT, though it is passed over.
        bestIs(x, 1, 1, 0, 1);
        x.tram();
        bestIs(x, 0, 0, 0, 0, 0);
    }

    @Says(of = 23, value = "by which most PEOPLE WEEP,")
    static void bestMostPeople() {
        // The sham alone would weep three times.
        bestIs("sham;dry;plain 2;", 2, 2, 0, 2, 2);
    }

    @Says(of = 23, value = "of several by which they WEEP most often,")
    static void bestMostOften() {
        // 0 1 comes first by order, but the two weep only twice by it.
        bestIs("soft 1;sham;", 2, 3, 1, 1);
    }

    @Says(of = 23, value = "of these the first (by order, a MINUTE the last):")
    static void bestTheFirst() {
        bestIs("plain 6;plain 6;", 1, 1, 0);
        bestIs("plain 6;plain 6;", 2, 2, 0, 1);
        bestIs("dry;", 0, 0, 0, 0, 0);
        bestIs("dry;dry;dry;dry;dry;", 0, 0, 0, 0, 0, 0);
    }

    @Says(of = 23, value = "how many (what 0), how often (1);")
    static void bestHowMany() {
        TearsQueue x = Checks.told("soft 4;soft 4;soft 4;soft 4;soft 4;");
        due("best(1, 0)", x.best(1, 0), 5);
        due("best(1, 1)", x.best(1, 1), 5);
        due("best(0, 0)", x.best(0, 0), 0);
        due("best(0, 1)", x.best(0, 1), 0);
        Sentences.onlyAsks("best(4, 0)", y -> y.best(4, 0));
        Sentences.onlyAsks("best(4, 1)", y -> y.best(4, 1));
    }

    @Says(of = 23, value = "10 and i: its i-th ACT (NONE: not so many).")
    static void bestRow() {
        for (int n = 0; n <= 4; n++) {
            TearsQueue x = Checks.told("sham;dry;");
            for (int i = 0; i < 4; i++) {
                due("best(" + n + ", " + (10 + i) + ")", x.best(n, 10 + i), i < n ? 0 : NONE);
            }
        }
        due("best(4, 14), no bound of i is told", Checks.told("sham;").best(4, 14), NONE);
        due("best(0, MAX)", Checks.told("sham;").best(0, Integer.MAX_VALUE), NONE);
        Sentences.onlyAsks("best(3, 12)", y -> y.best(3, 12));
    }

    @Says(of = 23, value = "BAD.")
    static void bestBad() {
        for (int n : Sentences.beyond(0, 4)) {
            Sentences.leavesAll("best(" + n + ", 0)", x -> x.best(n, 0), BAD);
            Sentences.leavesAll("best(" + n + ", 10)", x -> x.best(n, 10), BAD);
        }
        int[] wrong = {-1, 2, 3, 4, 5, 6, 7, 8, 9, Integer.MIN_VALUE};
        for (int what : wrong) {
            Sentences.leavesAll("best(2, " + what + ")", x -> x.best(2, what), BAD);
        }
    }

    private static void homeIs(String text, int p, int... row) {
        homeIs(Checks.told(text), p, row);
    }

    private static void homeIs(TearsQueue x, int p, int... row) {
        due("home(" + p + ", 0)", x.home(p, 0), row.length);
        for (int i = 0; i < 3; i++) {
            due("home(" + p + ", " + (10 + i) + ")", x.home(p, 10 + i), i < row.length ? row[i] : NONE);
        }
    }

    @Says(of = 24, value = "The fewest THINKINGS (0 to 3), by whomever")
    static void homeFewest() {
        homeIs("plain;plain 6;room 1;", 0);
        homeIs("plain;plain 6;room 1;", 1, 1);
        homeIs("plain;plain 2;room 1;", 1, 1, 1);
        homeIs("plain;plain;room 1;", 1, 1, 1, 1);
        // The sham ahead weeps, and has frost then.
        homeIs("sham 3;dry;room 1;", 1, 0);
    }

    @Says(of = 24, value = "(who is GONE is passed over),")
    static void homePastTheGone() {
        TearsQueue x = Checks.told("dry;dry;plain 2;room 1;");
        x.tram();
        homeIs(x, 1);
        homeIs(x, 2, 2, 2);
    }

    @Says(of = 24, value = "behind which a ONE is GONE by the next TRAM (that comes then),")
    static void homeByTheTram() {
        homeIs("dry;dry;dry;dry;dry;room 5;", 4);
        homeIs("dry;dry;dry;dry;plain 6;room 4;", 4, 4);
        homeIs("dry;dry;dry;dry;dry;room 4;", 3);
        // THE PLAN counts for nothing.
        homeIs("dry;plain 6;room 1;plan 6 6;", 1, 1);
    }

    @Says(of = 24, value = "of several the first by rows (of PEOPLE, by order):")
    static void homeTheFirst() {
        // Both that the sham thinks and that he himself does will do.
        homeIs("sham 3;plain 6;room 1;", 1, 0);
        // 2 0 would do as well.
        homeIs("sham 3;dry;sham 3;dry;room 2;", 3, 0, 2);
    }

    @Says(of = 24, value = "how many (what 0);")
    static void homeHowMany() {
        due("home(0, 0)", Checks.told("dry;").home(0, 0), 0);
        Sentences.onlyAsks("home(3, 0)", x -> x.home(3, 0));
        Sentences.onlyAsks("home(1, 0)", x -> x.home(1, 0));
    }

    @Says(of = 24, value = "10 and i: who is the i-th to THINK (i 0 to 2; NONE: not so many).")
    static void homeRow() {
        TearsQueue x = Checks.told("dry;plain;room 1;");
        for (int i = 0; i < 3; i++) {
            due("home(1, " + (10 + i) + ")", x.home(1, 10 + i), 1);
            due("home(0, " + (10 + i) + "), by none", x.home(0, 10 + i), NONE);
        }
        due("home(1, 9)", x.home(1, 9), BAD);
        due("home(1, 13)", x.home(1, 13), BAD);
        Sentences.onlyAsks("home(1, 10)", y -> y.home(1, 10));
    }

    @Says(of = 24, value = "BAD;")
    static void homeBad() {
        for (int p : Sentences.beyond(0, 4)) {
            Sentences.leavesAll("home(" + p + ", 0)", x -> x.home(p, 0), BAD);
        }
        int[] wrong = {-1, 1, 2, 9, 13, Integer.MIN_VALUE, Integer.MAX_VALUE};
        for (int what : wrong) {
            Sentences.leavesAll("home(0, " + what + ")", x -> x.home(0, what), BAD);
            Sentences.leavesAll("home(4, " + what + "), also of one who is GONE", x -> x.home(4, what), BAD);
        }
        due("home(0, 0), nobody", new TearsQueue().home(0, 0), BAD);
    }

    @Says(of = 24, value = "STATE: he is GONE;")
    static void homeState() {
        int[] whats = {0, 10, 11, 12};
        for (int what : whats) {
            Sentences.leavesAll("home(4, " + what + ")", x -> x.home(4, what), STATE);
        }
    }

    @Says(of = 24, value = "NONE: by no three.")
    static void homeNone() {
        TearsQueue x = Checks.told("dry;dry;room 1;");
        due("home(1, 0)", x.home(1, 0), NONE);
        due("home(1, 10)", x.home(1, 10), NONE);
        due("home(1, 12)", x.home(1, 12), NONE);
        x.alter(1, 1, 7);
        due("home(1, 0), 19 by three", x.home(1, 0), NONE);
        x.alter(1, 1, 8);
        due("home(1, 0), 20 by three", x.home(1, 0), 3);
    }

    /** What swap() is told to be, played by other calls: the places, or NONE; how many are GONE. */
    private static int[] swapByHand(String people, int... acts) {
        int most = goneBy(people, acts);
        int places = NONE;
        for (int i = 0; i < acts.length; i++) {
            for (int j = i + 1; j < acts.length; j++) {
                int[] changed = acts.clone();
                changed[i] = acts[j];
                changed[j] = acts[i];
                int gone = goneBy(people, changed);
                if (gone > most) {
                    most = gone;
                    places = 10 * i + j;
                }
            }
        }
        return new int[] {places, places == NONE ? NONE : most};
    }

    private static int goneBy(String people, int... acts) {
        return Integer.bitCount(planned(people, acts).runs(0));
    }

    private static TearsQueue planned(String people, int... acts) {
        TearsQueue x = Checks.told(people);
        for (int act : acts) {
            x.plan(act);
        }
        return x;
    }

    @Says(of = 25, value = "Two ACTS of THE PLAN to be changed with each other so that most are GONE by it, more than as it is:")
    static void swapByDefinition() {
        String[] people = {"plain 6;sham;soft 4;room 1;", "sham 3;sham;plain 6;dry 18;soft;", "dry;", ""};
        int[][] plans = {{6, 2, 6, 5, 1}, {0, 6, 1, 6, 5, 2, 6, 2}, {0, 6, 0, 5}, {6, 5, 6}};
        for (int i = 0; i < people.length; i++) {
            int[] want = swapByHand(people[i], plans[i]);
            TearsQueue x = planned(people[i], plans[i]);
            due("swap(0) of " + people[i], x.swap(0), want[0]);
            due("swap(1) of " + people[i], x.swap(1), want[1]);
        }
    }

    @Says(of = 25, value = "10 times the lesser place and the greater, of several the least (what 0), how many are GONE then (1).")
    static void swapAnswers() {
        // Each tram takes as many as there is room, whoever they are: there is no better change to tell of.
        int[] want = swapByHand("dry;sham;plain 6;sham 3;dry;room 2;", 2, 6, 3, 6, 1, 0, 5, 6);
        TearsQueue x = planned("dry;sham;plain 6;sham 3;dry;room 2;", 2, 6, 3, 6, 1, 0, 5, 6);
        due("swap(0)", x.swap(0), want[0]);
        due("swap(1)", x.swap(1), want[1]);
        Sentences.onlyAsks("swap(0)", y -> y.swap(0));
        Sentences.onlyAsks("swap(1)", y -> y.swap(1));
    }

    @Says(of = 25, value = "BAD;")
    static void swapBad() {
        for (int what : Sentences.beyond(0, 1)) {
            Sentences.leavesAll("swap(" + what + ")", x -> x.swap(what), BAD);
            Sentences.leavesAll(TearsQueue::new, "swap(" + what + "), no ACTS", x -> x.swap(what), BAD);
        }
    }

    @Says(of = 25, value = "NONE: by none.")
    static void swapNone() {
        String[] texts = {"", "dry;", "dry;plan 6;", "dry;plan 6 6;", "dry;dry;dry;room 1;plan 0 6;"};
        for (String text : texts) {
            due("swap(0) of " + text, Checks.told(text).swap(0), NONE);
            due("swap(1) of " + text, Checks.told(text).swap(1), NONE);
        }
    }

    @Says(of = 26, value = "The ROOM (1 to 5) by which all who WAIT now are GONE BY THE PLAN, the least;")
    static void enough() {
        String people = "dry;dry;dry;dry;dry;";
        int[] least = {5, 3, 2, 2, 1, 1, 1, 1};
        TearsQueue x = Checks.told(people);
        for (int trams = 1; trams <= 8; trams++) {
            x.plan(6);
            due("enough(), " + trams + " TRAMS", x.enough(), least[trams - 1]);
        }
        due("rule(2), ROOM stays", x.rule(2), 2);
        TearsQueue y = Checks.told(people + "plan 6;");
        y.tram();
        due("enough(), of those who WAIT now", y.enough(), 3);
        y.room(5);
        y.tram();
        due("enough(), nobody WAITS", y.enough(), 1);
        due("enough(), there is nobody", new TearsQueue().enough(), 1);
        Sentences.onlyAsks("enough()", TearsQueue::enough);
    }

    @Says(of = 26, value = "NONE: by none.")
    static void enoughNone() {
        due("enough(), no ACTS", Checks.told("dry;").enough(), NONE);
        due("enough(), no TRAM", Checks.told("dry;plan 0 5 0;").enough(), NONE);
    }

    private static void luckIs(TearsQueue x, int v, int p, long above, long below) {
        due("luck(" + v + ", " + p + ", 0)", x.luck(v, p, 0), above);
        due("luck(" + v + ", " + p + ", 1)", x.luck(v, p, 1), below);
    }

    @Says(of = 27, value = "Each THINKING of THE PLAN fails by v out of ten (0 to 10), by itself (it is passed over):")
    static void luckFails() {
        TearsQueue x = Checks.told("dry;plain 9;room 1;think 1;plan 1 1 6;");
        luckIs(x, 0, 1, 1, 1);
        luckIs(x, 10, 1, 0, 1);
        luckIs(x, 3, 1, 91, 100);
        luckIs(x, 3, 0, 9, 100);
        // A MINUTE and a TRAM do not fail.
        luckIs(Checks.told("dry;sham 1;room 1;plan 5 6;"), 10, 0, 1, 1);
        luckIs(Checks.told("sham 1;dry;room 1;plan 5 6;"), 10, 0, 0, 1);
        // Seven thoughts, each of which would do.
        luckIs(Checks.told("dry;plain 9;room 1;think 1;plan 1 1 1 1 1 1 1 6;"), 9, 1, 5217031, 10000000);
        luckIs(Checks.told("dry;dry;dry;dry;dry;plan 0 1 2 3 4 0 1 2;"), 7, 3, 0, 1);
    }

    @Says(of = 27, value = "that a ONE is GONE then: 0, 1.")
    static void luckGone() {
        luckIs(Checks.told(Busy.TEXT), 3, 4, 2149, 2500);
        luckIs(Checks.told("dry;"), 5, 0, 0, 1);
        TearsQueue x = Checks.told("dry;dry;room 1;plan 0 1;");
        x.tram();
        luckIs(x, 5, 0, 1, 1);
        luckIs(x, 5, 1, 0, 1);
        TearsQueue cut = Checks.told("dry;dry;plan 0 6 0 6;");
        cut.cut(1);
        luckIs(cut, 5, 0, 0, 1);
        due("mean(5, 0), the TRAMS are cut off", cut.mean(5, 0), 0);
        Sentences.onlyAsks("luck(3, 1, 0)", y -> y.luck(3, 1, 0));
        Sentences.onlyAsks("luck(3, 1, 1)", y -> y.luck(3, 1, 1));
    }

    @Says(of = 27, value = "BAD.")
    static void luckBad() {
        for (int v : Sentences.beyond(0, 10)) {
            Sentences.leavesAll("luck(" + v + ", 0, 0)", x -> x.luck(v, 0, 0), BAD);
        }
        for (int p : Sentences.beyond(0, 4)) {
            Sentences.leavesAll("luck(5, " + p + ", 0)", x -> x.luck(5, p, 0), BAD);
        }
        for (int what : Sentences.beyond(0, 1)) {
            Sentences.leavesAll("luck(5, 0, " + what + ")", x -> x.luck(5, 0, what), BAD);
        }
        due("luck(5, 0, 0), nobody", new TearsQueue().luck(5, 0, 0), BAD);
    }

    @Says(of = 28, value = "Likewise, the mean of how many are GONE then: 0, 1.")
    static void mean() {
        TearsQueue x = Checks.told(Busy.TEXT);
        for (int v = 0; v <= 10; v++) {
            due("mean(" + v + ", 0)", x.mean(v, 0), 4);
            due("mean(" + v + ", 1)", x.mean(v, 1), 1);
        }
        TearsQueue y = Checks.told("dry;dry;dry;room 1;plan 0 1;");
        due("mean(5, 0)", y.mean(5, 0), 0);
        due("mean(5, 1)", y.mean(5, 1), 1);
        y.tram();
        due("mean(5, 0), with those who were GONE", y.mean(5, 0), 1);
        y.plan(6);
        due("mean(5, 0)", y.mean(5, 0), 2);
        due("mean(5, 1)", y.mean(5, 1), 1);
        due("mean(0, 0), nobody", new TearsQueue().mean(0, 0), 0);
        due("mean(10, 1), nobody", new TearsQueue().mean(10, 1), 1);
        Sentences.onlyAsks("mean(5, 0)", z -> z.mean(5, 0));
    }

    @Says(of = 28, value = "BAD.")
    static void meanBad() {
        for (int v : Sentences.beyond(0, 10)) {
            Sentences.leavesAll("mean(" + v + ", 0)", x -> x.mean(v, 0), BAD);
        }
        for (int what : Sentences.beyond(0, 1)) {
            Sentences.leavesAll("mean(5, " + what + ")", x -> x.mean(5, what), BAD);
            Sentences.leavesAll(TearsQueue::new, "mean(5, " + what + ")", x -> x.mean(5, what), BAD);
        }
    }
}
