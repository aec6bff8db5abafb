/** Promises 29 to 34, sentence by sentence: what one thought, evenings by a seed. */
public final class ThoughtEdges {
    private static final int BAD = Sentences.BAD, STATE = Sentences.STATE;
    private static final int FULL = Sentences.FULL, NONE = Sentences.NONE;
    private static final int ALL_SORROWS = (1 << 21) - 1;
    /** By SORROW of 1 one of three is GONE: 0 by 0 to 2, 1 by 3 to 5, 2 by 6 and more. */
    private static final String THREE_WAYS = "dry;plain;plain 5;room 1;plan 1 5 2 1 6;";

    public static void main(String[] args) throws ReflectiveOperationException {
        Sentences.run(ThoughtEdges.class);
    }

    private static void due(String call, long got, long want) {
        Sentences.due(call, got, want);
    }

    @Says(of = 29, value = "SEEN: BY THE PLAN a ONE is GONE, or not: how many are.")
    static void see() {
        TearsQueue x = Checks.told("dry;dry;dry;dry;dry;");
        due("see(0, true)", x.see(0, true), 1);
        due("see(4, false)", x.see(4, false), 2);
        due("see(0, true), again", x.see(0, true), 3);
        due("see(0, false), the contrary", x.see(0, false), 4);
        due("count(0)", x.count(0), 4);
        due("sorrows(1), nothing is as SEEN", x.sorrows(1), 0);
        x.room(5);
        x.tram();
        due("see(2, true), who is GONE", x.see(2, true), 5);
        due("rule(5), nobody is GONE by it", x.rule(5), 0);
    }

    @Says(of = 29, value = "BAD;")
    static void seeBad() {
        for (int p : Sentences.beyond(0, 4)) {
            Sentences.leavesAll("see(" + p + ", true)", x -> x.see(p, true), BAD);
            Sentences.leavesAll("see(" + p + ", false)", x -> x.see(p, false), BAD);
            Sentences.leavesAll(Busy::withAllSeen, "see(" + p + ", true), a 7th", x -> x.see(p, true), BAD);
        }
        due("see(0, true), nobody", new TearsQueue().see(0, true), BAD);
    }

    @Says(of = 29, value = "FULL.")
    static void seeFull() {
        TearsQueue x = Checks.told("dry;");
        for (int i = 1; i <= 6; i++) {
            due("see(0, false)", x.see(0, false), i);
        }
        due("see(0, false), a 7th", x.see(0, false), FULL);
        x.forget(5);
        due("see(0, false), a 6th", x.see(0, false), 6);
        Sentences.leavesAll(Busy::withAllSeen, "see(0, true)", y -> y.see(0, true), FULL);
        Sentences.leavesAll(Busy::withAllSeen, "see(4, false)", y -> y.see(4, false), FULL);
    }

    @Says(of = 30, value = "SEEN are the first n alone: how many there were.")
    static void forget() {
        TearsQueue x = Checks.told(THREE_WAYS);
        due("forget(0), of none", x.forget(0), 0);
        x.see(2, false);
        x.see(0, true);
        x.see(1, true);
        due("sorrows(1)", x.sorrows(1), 0);
        due("forget(3), all stay", x.forget(3), 3);
        due("forget(2)", x.forget(2), 3);
        due("sorrows(1), 0 to 2", x.sorrows(1), 7);
        due("forget(1)", x.forget(1), 2);
        due("sorrows(1), 0 to 5", x.sorrows(1), 63);
        due("forget(0)", x.forget(0), 1);
        due("sorrows(1)", x.sorrows(1), ALL_SORROWS);
        due("count(0)", x.count(0), 0);
    }

    @Says(of = 30, value = "BAD.")
    static void forgetBad() {
        for (int n : Sentences.beyond(0, 2)) {
            Sentences.leavesAll("forget(" + n + ")", x -> x.forget(n), BAD);
        }
        Sentences.leavesAll(TearsQueue::new, "forget(1), of none", x -> x.forget(1), BAD);
        Sentences.leavesAll(Busy::withAllSeen, "forget(7)", x -> x.forget(7), BAD);
    }

    @Says(of = 31, value = "KINDS of a ONE (bits) by which, all else as it is, all is as SEEN.")
    static void kinds() {
        TearsQueue x = Checks.told("plain;plain 1;room 1;plan 1 6;");
        due("kinds(1), nothing is SEEN", x.kinds(1), 15);
        x.see(1, true);
        due("kinds(1), a soft one alone", x.kinds(1), 2);
        due("kinds(0), of another: a sham has frost", x.kinds(0), 4);
        x.forget(0);
        x.see(1, false);
        due("kinds(1), all but a soft one", x.kinds(1), 13);
        x.see(1, true);
        due("kinds(1), by none", x.kinds(1), 0);
        TearsQueue gone = Checks.told("dry;dry;room 1;");
        gone.tram();
        gone.see(0, true);
        due("kinds(0), he is GONE by any", gone.kinds(0), 15);
        gone.see(1, true);
        due("kinds(0), the other is not, by any", gone.kinds(0), 0);
        Sentences.onlyAsks("kinds(1)", y -> y.kinds(1));
    }

    @Says(of = 31, value = "BAD.")
    static void kindsBad() {
        for (int p : Sentences.beyond(0, 4)) {
            Sentences.leavesAll("kinds(" + p + ")", x -> x.kinds(p), BAD);
        }
        due("kinds(0), nobody", new TearsQueue().kinds(0), BAD);
    }

    @Says(of = 32, value = "SORROWS of a ONE (0 to 20; bits) by which, all else as it is, all is as SEEN.")
    static void sorrows() {
        TearsQueue x = Checks.told(THREE_WAYS);
        due("sorrows(1), nothing is SEEN", x.sorrows(1), ALL_SORROWS);
        x.see(0, true);
        due("sorrows(1), from 0", x.sorrows(1), 7);
        x.forget(0);
        x.see(1, true);
        due("sorrows(1)", x.sorrows(1), 56);
        x.forget(0);
        x.see(2, true);
        due("sorrows(1), up to 20", x.sorrows(1), ALL_SORROWS - 63);
        x.see(2, false);
        due("sorrows(1), by none", x.sorrows(1), 0);
        TearsQueue brimful = Checks.told("dry;dry 40;room 1;plan 0 6;");
        brimful.see(1, true);
        due("sorrows(1), 20 alone, though it is 40", brimful.sorrows(1), 1 << 20);
        Sentences.onlyAsks("sorrows(1)", y -> y.sorrows(1));
    }

    @Says(of = 32, value = "BAD.")
    static void sorrowsBad() {
        for (int p : Sentences.beyond(0, 4)) {
            Sentences.leavesAll("sorrows(" + p + ")", x -> x.sorrows(p), BAD);
        }
        due("sorrows(0), nobody", new TearsQueue().sorrows(0), BAD);
    }

    @Says(of = 33, value = "The ONE to look at whether he is GONE BY THE PLAN, so that of sorrows() of a ONE fewest are left at the worst,")
    static void askFewest() {
        // 3, 3 and 15 of 21: to look at 2 leaves 15 at the worst, at the others 18.
        TearsQueue x = Checks.told(THREE_WAYS);
        due("ask(1, 0)", x.ask(1, 0), 2);
        due("ask(1, 1)", x.ask(1, 1), 15);
        Sentences.onlyAsks("ask(0, 0)", y -> y.ask(0, 0));
    }

    @Says(of = 33, value = "fewer than now,")
    static void askFewer() {
        TearsQueue x = Checks.told(THREE_WAYS);
        x.see(2, true);
        due("ask(1, 0), 15 would be left of 15", x.ask(1, 0), NONE);
        due("ask(1, 1)", x.ask(1, 1), NONE);
    }

    @Says(of = 33, value = "the first (what 0),")
    static void askTheFirst() {
        TearsQueue x = Checks.told(THREE_WAYS);
        x.see(2, false);
        due("ask(1, 0), 1 would do as well", x.ask(1, 0), 0);
    }

    @Says(of = 33, value = "how many these are (1).")
    static void askHowMany() {
        TearsQueue x = Checks.told(THREE_WAYS);
        x.see(2, false);
        due("ask(1, 1)", x.ask(1, 1), 3);
        TearsQueue y = Checks.told("dry;dry;room 1;plan 0 6;");
        due("ask(1, 0)", y.ask(1, 0), 0);
        due("ask(1, 1), all but one", y.ask(1, 1), 20);
        Sentences.onlyAsks("ask(1, 1)", z -> z.ask(1, 1));
    }

    @Says(of = 33, value = "BAD;")
    static void askBad() {
        for (int p : Sentences.beyond(0, 4)) {
            Sentences.leavesAll("ask(" + p + ", 0)", x -> x.ask(p, 0), BAD);
        }
        for (int what : Sentences.beyond(0, 1)) {
            Sentences.leavesAll("ask(0, " + what + ")", x -> x.ask(0, what), BAD);
        }
        due("ask(0, 0), nobody", new TearsQueue().ask(0, 0), BAD);
    }

    @Says(of = 33, value = "NONE: nobody.")
    static void askNobody() {
        TearsQueue x = Checks.told("dry;dry;plan 6;");
        due("ask(0, 0), all are GONE by any", x.ask(0, 0), NONE);
        due("ask(0, 1)", x.ask(0, 1), NONE);
        x.see(0, false);
        due("ask(0, 0), no sorrow is left", x.ask(0, 0), NONE);
        TearsQueue one = Checks.told("dry;dry;room 1;plan 0 6;");
        one.see(1, true);
        due("sorrows(1), one is left", one.sorrows(1), 1 << 20);
        due("ask(1, 0)", one.ask(1, 0), NONE);
        due("ask(0, 0), no ACTS", Checks.told("dry;").ask(0, 0), NONE);
    }

    @Says(of = 34, value = "By itself, n ACTS (1 to 60) by a seed:")
    static void driftLength() {
        // By seed 1, of one: he thinks at 0, 1, 6, 8, 9; minutes go at 2, 3, 4, 5, 7.
        TearsQueue x = Checks.told("soft;");
        int[] often = {0, 1, 1, 1, 1, 1, 1, 1, 2, 2};
        for (int n = 1; n <= 10; n++) {
            due("drift(1, " + n + ", 0)", x.drift(1, n, 0), often[n - 1]);
        }
        due("drift(1, 0, 0)", x.drift(1, 0, 0), BAD);
        due("drift(1, 61, 0)", x.drift(1, 61, 0), BAD);
        Sentences.leavesAll("drift(1, 60, 0)", y -> y.drift(1, 60, 0), Busy.made().drift(1, 60, 0));
        driftIs(Busy.TEXT, 5, 1, 60);
    }

    @Says(of = 34, value = "the seed becomes seed times 1103515245 and 12345;")
    static void driftSeed() {
        // 0: 12345, bits 0. -1 and the greatest: bits 15929. The least: bits 0.
        TearsQueue one = Checks.told("soft 1;");
        due("drift(0, 1, 0), he THINKS", one.drift(0, 1, 0), 1);
        due("drift(1, 1, 0), 16838, he THINKS", one.drift(1, 1, 0), 1);
        due("drift(-1, 1, 0), a MINUTE", one.drift(-1, 1, 0), 0);
        due("drift(MAX, 1, 0), a MINUTE", one.drift(Integer.MAX_VALUE, 1, 0), 0);
        due("drift(MIN, 1, 0), he THINKS", one.drift(Integer.MIN_VALUE, 1, 0), 1);
        TearsQueue three = Checks.told("dry;soft 1;dry;");
        due("drift(-1, 1, 0), 1 THINKS", three.drift(-1, 1, 0), 1);
        due("drift(MAX, 1, 0), 1 THINKS", three.drift(Integer.MAX_VALUE, 1, 0), 1);
        int[] seeds = {0, 1, -1, 7, -3, 65536, Integer.MAX_VALUE, Integer.MIN_VALUE, 123456789};
        for (int seed : seeds) {
            driftIs(Busy.TEXT, 5, seed, 33);
            driftIs("plain 5;soft 3;", 2, seed, 40);
        }
    }

    @Says(of = 34, value = "bits 16 to 30 of it modulo (PEOPLE and 1):")
    static void driftModulo() {
        // By seed 1: 16838, which is 0 of 2, 2 of 3, 2 of 4, 3 of 5, 2 of 6.
        String[] texts = {"soft 1;", "dry;soft 1;", "dry;dry;soft 1;", "dry;dry;dry;soft 1;", "dry;dry;soft 1;dry;dry;"};
        int[] often = {1, 0, 1, 1, 1};
        for (int i = 0; i < texts.length; i++) {
            due("drift(1, 1, 0) of " + texts[i], Checks.told(texts[i]).drift(1, 1, 0), often[i]);
        }
        // By seed -1 the bits are 48697, without the highest 15929: 5 of 6, where 48697 is 1.
        due("drift(-1, 1, 0), a MINUTE", Checks.told("dry;soft 1;dry;dry;dry;").drift(-1, 1, 0), 0);
    }

    @Says(of = 34, value = "that ONE THINKS (nothing, if he is GONE), or (the last number) a MINUTE goes:")
    static void driftActs() {
        TearsQueue x = Checks.told("soft 1;dry;room 1;");
        x.tram();
        due("drift(0, 1, 0), he is GONE", x.drift(0, 1, 0), 0);
        due("drift(0, 1, 1)", x.drift(0, 1, 1), 1);
        // By seed 1, of two, a MINUTE goes first: the sham has frost then.
        TearsQueue y = Checks.told("sham 1;dry;");
        due("drift(1, 1, 1)", y.drift(1, 1, 1), 1);
        due("queue(0), nothing is done", y.queue(0), 0);
        // THE PLAN is not asked.
        due("drift(0, 1, 0)", Checks.told("soft 1;dry;plan 6 6;").drift(0, 1, 0), 1);
    }

    @Says(of = 34, value = "how often they WEEP (what 0),")
    static void driftHowOften() {
        // By seed 1, of two: a minute, 1, 0, 1, 1, a minute, 0, 0, 0, 0.
        TearsQueue x = Checks.told("dry;soft;");
        int[] often = {0, 0, 0, 1, 1, 1, 1, 1, 1, 3};
        for (int n = 1; n <= 10; n++) {
            due("drift(1, " + n + ", 0)", x.drift(1, n, 0), often[n - 1]);
        }
        Sentences.onlyAsks("drift(7, 60, 0)", y -> y.drift(7, 60, 0));
    }

    @Says(of = 34, value = "who is the first of THE QUEUE in the end (1; NONE).")
    static void driftFirst() {
        TearsQueue x = Checks.told("dry;soft;");
        due("drift(1, 3, 1)", x.drift(1, 3, 1), 0);
        due("drift(1, 4, 1)", x.drift(1, 4, 1), 1);
        due("drift(1, 9, 1)", x.drift(1, 9, 1), 1);
        due("drift(1, 10, 1), both in MINUTE 2", x.drift(1, 10, 1), 0);
        x.tram();
        due("drift(1, 10, 1), all are GONE", x.drift(1, 10, 1), NONE);
        due("drift(1, 60, 0), all are GONE", x.drift(1, 60, 0), 0);
        Sentences.onlyAsks("drift(7, 60, 1)", y -> y.drift(7, 60, 1));
    }

    @Says(of = 34, value = "BAD;")
    static void driftBad() {
        for (int n : Sentences.beyond(1, 60)) {
            Sentences.leavesAll("drift(1, " + n + ", 0)", x -> x.drift(1, n, 0), BAD);
        }
        for (int what : Sentences.beyond(0, 1)) {
            Sentences.leavesAll("drift(1, 1, " + what + ")", x -> x.drift(1, 1, what), BAD);
            due("drift(1, 1, " + what + "), also of nobody", new TearsQueue().drift(1, 1, what), BAD);
        }
    }

    @Says(of = 34, value = "STATE: there is nobody.")
    static void driftState() {
        Sentences.leavesAll(TearsQueue::new, "drift(1, 1, 0)", x -> x.drift(1, 1, 0), STATE);
        Sentences.leavesAll(TearsQueue::new, "drift(1, 60, 1)", x -> x.drift(1, 60, 1), STATE);
    }

    /** The same acts done by the calls of another object. */
    private static void driftIs(String text, int people, int seed, int n) {
        TearsQueue x = Checks.told(text);
        TearsQueue y = Checks.told(text);
        long state = seed;
        int weepings = 0;
        for (int i = 0; i < n; i++) {
            state = (state * 1103515245L + 12345L) & 0xffffffffL;
            int pick = (int) ((state >> 16) % 32768 % (people + 1));
            if (pick == people) {
                y.minutes(1);
            } else {
                weepings += Integer.bitCount(y.thinks(pick));
            }
        }
        due("drift(" + seed + ", " + n + ", 0)", x.drift(seed, n, 0), weepings);
        due("drift(" + seed + ", " + n + ", 1)", x.drift(seed, n, 1), y.queue(0));
    }
}
