import java.util.Arrays;

/**
 * The queue that boards in tears order: who wept latest gets on first.
 * What each call answers stands, as numbered promises, in DOC.md.
 */
public final class TearsQueue {
    public static final int BAD = -1, STATE = -2, FULL = -3, NONE = -4;

    private static final int MOST_PEOPLE = 5;
    private static final int MOST_SORROW = 40;
    private static final int MOST_ACTS = 8;
    private static final int MOST_MINUTE = 999;
    private static final int MOST_ROOM = 5;
    private static final int MOST_THINK = 9;
    private static final int FIRST_ROOM = 2;
    private static final int FIRST_THINK = 4;
    private static final int MOST_SEEN = 6;
    private static final int TAPE_SIZE = 160;
    private static final int SHEET_SIZE = 40;
    private static final int SHEETS = 4;
    private static final int IMAGES = 2;
    private static final int LANES = 3;

    private static final int KINDS = 4;
    private static final int SHAM = 2;
    /** By KIND: plain, soft (half of that), sham (1 less than a soft one), dry (twice a plain one). */
    private static final int[] BRIMS = {10, 5, 4, 20};
    private static final int SET_OFF = 2;
    private static final int NEVER = -1;

    private static final int MINUTE_GOES = 5;
    private static final int TRAM_COMES = 6;

    private static final int NULL_FAULT = 1;
    private static final int INDEX_FAULT = 2;
    private static final int CAST_FAULT = 3;
    private static final int SIZE_FAULT = 4;

    private static final int MOST_SOON = 9;
    private static final int MOST_ROW = 4;
    private static final int MOST_HOME = 3;
    private static final int ROW_ASKED = 10;
    private static final int MOST_GUESS = 20;
    private static final int ODDS = 10;

    private final Evening now = new Evening();
    private final Evening trial = new Evening();
    private final Tape tape = new Tape();
    private final Sightings sightings = new Sightings();
    private final Rows rows = new Rows();
    private final Chances chances = new Chances();
    private final Evening[] images = new Evening[IMAGES];
    private final boolean[] kept = new boolean[IMAGES];
    private final Sheet[] sheets = new Sheet[SHEETS];
    /** Who is GONE by each sorrow that ask() goes through. */
    private final int[] outcomes = new int[MOST_GUESS + 1];
    private int tornFault;

    public TearsQueue() {
        for (int k = 0; k < IMAGES; k++) {
            images[k] = new Evening();
        }
        for (int k = 0; k < SHEETS; k++) {
            sheets[k] = new Sheet();
        }
    }

    // ---- the text, what there is

    public int feed(int c) {
        if (c < 0 || c > 127) {
            return BAD;
        }
        return tape.append(c) ? tape.length : FULL;
    }

    public int end(int n) {
        if (n < 0 || n > tape.length) {
            return BAD;
        }
        int had = tape.length;
        tape.length = n;
        return had;
    }

    public int text() {
        int answer = tape.tellAll();
        if (tape.fault == 0) {
            now.copyFrom(tape.draft);
            sightings.number = 0;
            for (int k = 0; k < IMAGES; k++) {
                kept[k] = false;
            }
        }
        return answer;
    }

    public int fault() {
        return tape.fault;
    }

    public int rule(int what) {
        switch (what) {
            case 0: return now.people;
            case 1: return now.minute;
            case 2: return now.room;
            case 3: return now.think;
            case 4: return now.actCount;
            case 5: return now.waitingBits();
            case 6: return now.allSorrow();
            default: return BAD;
        }
    }

    public int one(int p, int what) {
        if (!now.isThere(p)) {
            return BAD;
        }
        switch (what) {
            case 0: return now.kind[p];
            case 1: return now.sorrow[p];
            case 2: return now.weptOrNone(p);
            case 3: return now.brim(p);
            case 4: return now.waits(p) ? 0 : 1;
            default: return BAD;
        }
    }

    public int act(int i) {
        return i < 0 || i >= now.actCount ? BAD : now.acts[i];
    }

    public int queue(int i) {
        return i < 0 || i >= MOST_PEOPLE ? BAD : now.inLine(i);
    }

    // ---- what is changed

    public int alter(int p, int what, int v) {
        if (!now.isThere(p) || v < 0) {
            return BAD;
        }
        if (what == 0 && v < KINDS) {
            int was = now.kind[p];
            now.kind[p] = v;
            return was;
        }
        if (what == 1 && v <= MOST_SORROW) {
            int was = now.sorrow[p];
            now.sorrow[p] = v;
            return was;
        }
        return BAD;
    }

    public int room(int v) {
        if (v < 1 || v > MOST_ROOM) {
            return BAD;
        }
        int was = now.room;
        now.room = v;
        return was;
    }

    public int think(int v) {
        if (v < 1 || v > MOST_THINK) {
            return BAD;
        }
        int was = now.think;
        now.think = v;
        return was;
    }

    public int plan(int act) {
        if (!now.isAct(act)) {
            return BAD;
        }
        return now.addAct(act) ? now.actCount : FULL;
    }

    public int cut(int n) {
        if (n < 0 || n > now.actCount) {
            return BAD;
        }
        int had = now.actCount;
        now.actCount = n;
        return had;
    }

    // ---- an evening

    public int thinks(int p) {
        if (!now.isThere(p)) {
            return BAD;
        }
        return now.waits(p) ? now.thinkAndWeep(p) : STATE;
    }

    public int minutes(int n) {
        if (n < 0 || n > 60) {
            return BAD;
        }
        for (int i = 0; i < n; i++) {
            now.dry();
        }
        return now.allSorrow();
    }

    public int tram() {
        return now.board();
    }

    public int joy(int p) {
        if (!now.isThere(p)) {
            return BAD;
        }
        if (!now.waits(p)) {
            return STATE;
        }
        int was = now.sorrow[p];
        now.sorrow[p] = 0;
        now.weptIn[p] = NEVER;
        return was;
    }

    public int second() {
        int number = Integer.bitCount(now.goneBits);
        now.goneBits = 0;
        return number;
    }

    public int runs(int what) {
        if (what < 0 || what > 4) {
            return BAD;
        }
        trial.startFrom(now);
        trial.followPlan();
        switch (what) {
            case 0: return trial.goneBits;
            case 1: return trial.weepers;
            case 2: return trial.weepings;
            case 3: return trial.passedOver;
            default: return trial.allSorrow();
        }
    }

    public int ahead(int p, int what) {
        if (!now.isThere(p) || !isZeroOrOne(what)) {
            return BAD;
        }
        trial.startFrom(now);
        trial.followPlan();
        return what == 0 ? trial.sorrow[p] : trial.weptOrNone(p);
    }

    // ---- what is best

    public int soon(int p) {
        if (!now.isThere(p)) {
            return BAD;
        }
        if (!now.waits(p)) {
            return NONE;
        }
        trial.startFrom(now);
        for (int times = 0; times <= MOST_SOON; times++) {
            if (trial.inLine(0) == p) {
                return times;
            }
            trial.thinkAndWeep(p);
        }
        return NONE;
    }

    public int best(int n, int what) {
        if (n < 0 || n > MOST_ROW || (!isZeroOrOne(what) && what < ROW_ASKED)) {
            return BAD;
        }
        rows.findMostTears(now, n);
        if (what >= ROW_ASKED) {
            return rows.foundAt(what - ROW_ASKED);
        }
        return what == 0 ? rows.foundWeepers : rows.foundWeepings;
    }

    public int home(int p, int what) {
        boolean rowIsAsked = what >= ROW_ASKED && what < ROW_ASKED + MOST_HOME;
        if (!now.isThere(p) || (what != 0 && !rowIsAsked)) {
            return BAD;
        }
        if (!now.waits(p)) {
            return STATE;
        }
        if (!rows.findWayHome(now, p)) {
            return NONE;
        }
        return rowIsAsked ? rows.foundAt(what - ROW_ASKED) : rows.foundLength;
    }

    public int swap(int what) {
        if (!isZeroOrOne(what)) {
            return BAD;
        }
        int most = goneByChangedPlan(0, 0);
        int places = NONE;
        for (int i = 0; i < now.actCount; i++) {
            for (int j = i + 1; j < now.actCount; j++) {
                int gone = goneByChangedPlan(i, j);
                if (gone > most) {
                    most = gone;
                    places = 10 * i + j;
                }
            }
        }
        return what == 0 || places == NONE ? places : most;
    }

    public int enough() {
        for (int v = 1; v <= MOST_ROOM; v++) {
            trial.startFrom(now);
            trial.room = v;
            trial.followPlan();
            if (trial.waitingBits() == 0) {
                return v;
            }
        }
        return NONE;
    }

    // ---- thoughts that fail

    public long luck(int v, int p, int what) {
        if (v < 0 || v > ODDS || !now.isThere(p) || !isZeroOrOne(what)) {
            return BAD;
        }
        chances.weighPlan(now, v);
        return partOfFraction(chances.weightOf(p), chances.whole, what);
    }

    public long mean(int v, int what) {
        if (v < 0 || v > ODDS || !isZeroOrOne(what)) {
            return BAD;
        }
        chances.weighPlan(now, v);
        long sum = 0;
        for (int p = 0; p < now.people; p++) {
            sum += chances.weightOf(p);
        }
        return partOfFraction(sum, chances.whole, what);
    }

    // ---- what one thought

    public int see(int p, boolean gone) {
        if (!now.isThere(p)) {
            return BAD;
        }
        return sightings.add(p, gone) ? sightings.number : FULL;
    }

    public int forget(int n) {
        if (n < 0 || n > sightings.number) {
            return BAD;
        }
        int had = sightings.number;
        sightings.number = n;
        return had;
    }

    public int kinds(int p) {
        if (!now.isThere(p)) {
            return BAD;
        }
        int bits = 0;
        for (int k = 0; k < KINDS; k++) {
            trial.startFrom(now);
            trial.kind[p] = k;
            trial.followPlan();
            if (sightings.agreeWith(trial.goneBits)) {
                bits |= 1 << k;
            }
        }
        return bits;
    }

    public int sorrows(int p) {
        return now.isThere(p) ? possibleSorrows(p) : BAD;
    }

    public int ask(int p, int what) {
        if (!now.isThere(p) || !isZeroOrOne(what)) {
            return BAD;
        }
        int possible = possibleSorrows(p);
        int fewest = Integer.bitCount(possible);
        int whom = NONE;
        for (int q = 0; q < now.people; q++) {
            int left = leftAtWorst(possible, q);
            if (left < fewest) {
                fewest = left;
                whom = q;
            }
        }
        return what == 0 || whom == NONE ? whom : fewest;
    }

    // ---- by a seed

    public int drift(int seed, int n, int what) {
        if (n < 1 || n > 60 || !isZeroOrOne(what)) {
            return BAD;
        }
        int people = now.people;
        if (people < 1) {
            return STATE;
        }
        trial.startFrom(now);
        int state = seed;
        for (int i = 0; i < n; i++) {
            state = state * 1103515245 + 12345;
            int pick = ((state >>> 16) & 0x7fff) % (people + 1);
            trial.play(pick < people ? pick : MINUTE_GOES);
        }
        return what == 0 ? trial.weepings : trial.inLine(0);
    }

    // ---- images, sheets

    public int keep(int k) {
        if (k < 0 || k >= IMAGES) {
            return BAD;
        }
        int was = kept[k] ? 1 : 0;
        images[k].copyFrom(now);
        kept[k] = true;
        return was;
    }

    public int back(int k) {
        if (k < 0 || k >= IMAGES) {
            return BAD;
        }
        if (!kept[k]) {
            return STATE;
        }
        now.copyFrom(images[k]);
        return now.minute;
    }

    public int sheet(int k, int lane, int n) {
        if (!isSheet(k) || !isLane(lane) || n > SHEET_SIZE) {
            return BAD;
        }
        if (n < 0) {
            return -10 - SIZE_FAULT;
        }
        sheets[k].renew(lane, n);
        return 1;
    }

    public int lay(int k, int i, int v) {
        if (!isSheet(k)) {
            return BAD;
        }
        Sheet sheet = sheets[k];
        int fault = sheet.faultAt(sheet.lane, i);
        if (fault != 0) {
            return -10 - fault;
        }
        sheet.put(i, v);
        return 1;
    }

    public int read(int k, int lane, int f, int n) {
        if (!isSheet(k) || !isLane(lane) || n < 0 || n > 20) {
            return BAD;
        }
        trial.startFrom(now);
        int fault = 0;
        int done = 0;
        while (done < n) {
            fault = sheets[k].faultAt(lane, f + done);
            if (fault != 0) {
                break;
            }
            int act = sheets[k].cells[f + done];
            if (!trial.isAct(act) || !trial.play(act)) {
                return -20 - done;
            }
            done++;
        }
        now.copyFrom(trial);
        tornFault = fault;
        return done;
    }

    public int torn() {
        return tornFault;
    }

    public int count(int what) {
        switch (what) {
            case 0: return sightings.number;
            case 1: return (kept[0] ? 1 : 0) + (kept[1] ? 1 : 0);
            case 2: return tape.length;
            case 3: return sheets[0].laid ? sheets[0].length : NONE;
            case 4: return now.everWept();
            case 5: return now.tramsPlanned();
            default: return BAD;
        }
    }

    // ---- what the calls share

    private static boolean isZeroOrOne(int what) {
        return what == 0 || what == 1;
    }

    private static boolean isSheet(int k) {
        return k >= 0 && k < SHEETS;
    }

    private static boolean isLane(int lane) {
        return lane >= 0 && lane < LANES;
    }

    private int goneByChangedPlan(int i, int j) {
        trial.startFrom(now);
        trial.changeActs(i, j);
        trial.followPlan();
        return Integer.bitCount(trial.goneBits);
    }

    /** Leaves in outcomes who is GONE by each sorrow, so that ask() need not play them again. */
    private int possibleSorrows(int p) {
        int bits = 0;
        for (int s = 0; s <= MOST_GUESS; s++) {
            trial.startFrom(now);
            trial.sorrow[p] = s;
            trial.followPlan();
            outcomes[s] = trial.goneBits;
            if (sightings.agreeWith(trial.goneBits)) {
                bits |= 1 << s;
            }
        }
        return bits;
    }

    private int leftAtWorst(int possible, int q) {
        int ifGone = 0;
        int ifNot = 0;
        for (int s = 0; s <= MOST_GUESS; s++) {
            if ((possible >> s & 1) == 1) {
                if ((outcomes[s] >> q & 1) == 1) {
                    ifGone++;
                } else {
                    ifNot++;
                }
            }
        }
        return Math.max(ifGone, ifNot);
    }

    private static long partOfFraction(long above, long below, int what) {
        long divisor = greatestDivisor(above, below);
        long part = what == 0 ? above : below;
        return divisor < 1 ? part : part / divisor;
    }

    private static long greatestDivisor(long a, long b) {
        // Euclid's steps on two longs stay far below 200.
        for (int step = 0; step < 200 && b != 0; step++) {
            long rest = a % b;
            a = b;
            b = rest;
        }
        return a;
    }

    /** PEOPLE, MINUTE, ROOM, THINK and THE PLAN: played on a copy, they leave the real ones alone. */
    private static final class Evening {
        final int[] kind = new int[MOST_PEOPLE];
        final int[] sorrow = new int[MOST_PEOPLE];
        final int[] weptIn = new int[MOST_PEOPLE];
        final int[] acts = new int[MOST_ACTS];
        final int[] line = new int[MOST_PEOPLE];
        int people;
        int goneBits;
        int minute;
        int room = FIRST_ROOM;
        int think = FIRST_THINK;
        int actCount;
        int weepers;
        int weepings;
        int passedOver = NONE;

        void clear() {
            people = 0;
            goneBits = 0;
            minute = 0;
            room = FIRST_ROOM;
            think = FIRST_THINK;
            actCount = 0;
            clearTally();
        }

        void clearTally() {
            weepers = 0;
            weepings = 0;
            passedOver = NONE;
        }

        void copyFrom(Evening other) {
            System.arraycopy(other.kind, 0, kind, 0, MOST_PEOPLE);
            System.arraycopy(other.sorrow, 0, sorrow, 0, MOST_PEOPLE);
            System.arraycopy(other.weptIn, 0, weptIn, 0, MOST_PEOPLE);
            System.arraycopy(other.acts, 0, acts, 0, MOST_ACTS);
            people = other.people;
            goneBits = other.goneBits;
            minute = other.minute;
            room = other.room;
            think = other.think;
            actCount = other.actCount;
            weepers = other.weepers;
            weepings = other.weepings;
            passedOver = other.passedOver;
        }

        void startFrom(Evening other) {
            copyFrom(other);
            clearTally();
        }

        boolean isThere(int p) {
            return p >= 0 && p < people;
        }

        boolean waits(int p) {
            return p >= 0 && p < people && (goneBits >> p & 1) == 0;
        }

        boolean isAct(int act) {
            return isThere(act) || act == MINUTE_GOES || act == TRAM_COMES;
        }

        int brim(int p) {
            return BRIMS[kind[p]];
        }

        int weptOrNone(int p) {
            return weptIn[p] == NEVER ? NONE : weptIn[p];
        }

        int waitingBits() {
            return ((1 << people) - 1) & ~goneBits;
        }

        int allSorrow() {
            int sum = 0;
            for (int p = 0; p < people; p++) {
                if (waits(p)) {
                    sum += sorrow[p];
                }
            }
            return sum;
        }

        int everWept() {
            int number = 0;
            for (int p = 0; p < people; p++) {
                if (weptIn[p] != NEVER) {
                    number++;
                }
            }
            return number;
        }

        int tramsPlanned() {
            int number = 0;
            for (int i = 0; i < actCount; i++) {
                if (acts[i] == TRAM_COMES) {
                    number++;
                }
            }
            return number;
        }

        void addOne(int ofKind, int withSorrow) {
            if (people < MOST_PEOPLE) {
                kind[people] = ofKind;
                sorrow[people] = withSorrow;
                weptIn[people] = NEVER;
                people++;
            }
        }

        boolean addAct(int act) {
            if (actCount >= MOST_ACTS) {
                return false;
            }
            acts[actCount] = act;
            actCount++;
            return true;
        }

        void changeActs(int i, int j) {
            if (i >= 0 && i < actCount && j >= 0 && j < actCount) {
                int first = acts[i];
                acts[i] = acts[j];
                acts[j] = first;
            }
        }

        /** False: an act is of a ONE that there is not. */
        boolean allActsFit() {
            for (int i = 0; i < actCount; i++) {
                if (!isAct(acts[i])) {
                    return false;
                }
            }
            return true;
        }

        void followPlan() {
            for (int i = 0; i < actCount; i++) {
                if (!play(acts[i]) && passedOver == NONE) {
                    passedOver = i;
                }
            }
        }

        /** False: the act is passed over, as its ONE is GONE. */
        boolean play(int act) {
            if (act == MINUTE_GOES) {
                dry();
                return true;
            }
            if (act == TRAM_COMES) {
                board();
                return true;
            }
            if (!waits(act)) {
                return false;
            }
            thinkAndWeep(act);
            return true;
        }

        /** Who weeps by it, as bits. */
        int thinkAndWeep(int p) {
            sadden(p, think);
            int wept = 0;
            // Nobody weeps twice by one thinking, so there are no more rounds than people.
            for (int round = 0; round < people; round++) {
                int next = firstToWeep(wept);
                if (next == NONE) {
                    break;
                }
                weep(next);
                wept |= 1 << next;
            }
            weepers |= wept;
            weepings += Integer.bitCount(wept);
            return wept;
        }

        int firstToWeep(int weptAlready) {
            for (int p = 0; p < people; p++) {
                if (waits(p) && sorrow[p] >= brim(p) && (weptAlready >> p & 1) == 0) {
                    return p;
                }
            }
            return NONE;
        }

        void weep(int p) {
            weptIn[p] = minute;
            sorrow[p] = 0;
            sadden(nearest(p, -1), SET_OFF);
            sadden(nearest(p, 1), SET_OFF);
        }

        /** The nearest who waits beside p, a step of -1 being ahead; NONE. */
        int nearest(int p, int step) {
            int at = p;
            for (int tries = 0; tries < MOST_PEOPLE; tries++) {
                at += step;
                if (waits(at)) {
                    return at;
                }
            }
            return NONE;
        }

        void sadden(int p, int parts) {
            if (p >= 0 && p < people) {
                sorrow[p] = Math.min(MOST_SORROW, sorrow[p] + parts);
            }
        }

        void dry() {
            for (int p = 0; p < people; p++) {
                if (waits(p)) {
                    sorrow[p] = Math.max(0, sorrow[p] - 1);
                }
            }
            minute = Math.min(MOST_MINUTE, minute + 1);
        }

        /** Who is GONE by the tram, as bits. */
        int board() {
            int length = lineUp();
            int aboard = 0;
            for (int i = 0; i < length && i < room; i++) {
                aboard |= 1 << line[i];
            }
            goneBits |= aboard;
            return aboard;
        }

        int inLine(int i) {
            int length = lineUp();
            return i >= 0 && i < length ? line[i] : NONE;
        }

        /** Puts THE QUEUE in line: how long it is. Who is behind by order stays behind at the same rank. */
        int lineUp() {
            int length = 0;
            for (int p = 0; p < people; p++) {
                if (waits(p)) {
                    int at = length;
                    for (; at > 0 && rank(line[at - 1]) < rank(p); at--) {
                        line[at] = line[at - 1];
                    }
                    line[at] = p;
                    length++;
                }
            }
            return length;
        }

        int rank(int p) {
            boolean frosty = kind[p] == SHAM && sorrow[p] == 0;
            return frosty ? NEVER - 1 : weptIn[p];
        }
    }

    /** THE TAPE, and the reading of it into a draft that counts only when it has no fault. */
    private static final class Tape {
        static final int END = 0, NAME = 1, NUMBER = 2, SEMICOLON = 3, BROKEN = 4;
        static final int ROOM_LINE = 4, THINK_LINE = 5, NO_LINE = 7;

        final byte[] bytes = new byte[TAPE_SIZE];
        final Evening draft = new Evening();
        int length;
        int fault;
        int faultPlace;
        int settingsTold;
        int place;
        int sort;
        int start;
        int value;

        boolean append(int c) {
            if (length >= TAPE_SIZE) {
                return false;
            }
            bytes[length] = (byte) c;
            length++;
            return true;
        }

        /** How many lines, or -10 less the place of the fault; the tape is empty then. */
        int tellAll() {
            draft.clear();
            fault = 0;
            faultPlace = 0;
            settingsTold = 0;
            place = 0;
            takeToken();
            int lines = 0;
            // A line has a byte at least, so there are no more lines than bytes.
            while (fault == 0 && sort != END && lines < TAPE_SIZE) {
                tellLine();
                lines++;
            }
            if (fault == 0 && !draft.allActsFit()) {
                fail(6, length);
            }
            length = 0;
            return fault == 0 ? lines : -10 - faultPlace;
        }

        void tellLine() {
            int line = lineBegun();
            if (line == NO_LINE) {
                fail(2, start);
            } else if (line < KINDS) {
                tellOne(line);
            } else if ((settingsTold >> line & 1) == 1) {
                fail(4, start);
            } else {
                settingsTold |= 1 << line;
                takeToken();
                if (line == ROOM_LINE) {
                    draft.room = takeNumber(1, MOST_ROOM);
                } else if (line == THINK_LINE) {
                    draft.think = takeNumber(1, MOST_THINK);
                } else {
                    tellPlan();
                }
            }
            takeSemicolon();
        }

        void tellOne(int kind) {
            if (draft.people >= MOST_PEOPLE) {
                fail(5, start);
                return;
            }
            takeToken();
            draft.addOne(kind, sort == NUMBER ? takeNumber(0, MOST_SORROW) : 0);
        }

        void tellPlan() {
            for (int i = 0; i <= MOST_ACTS && fault == 0 && sort == NUMBER; i++) {
                if (i == MOST_ACTS) {
                    fail(5, start);
                } else {
                    draft.addAct(takeNumber(0, TRAM_COMES));
                }
            }
        }

        int takeNumber(int least, int most) {
            if (fault != 0) {
                return least;
            }
            if (sort != NUMBER) {
                fail(2, start);
                return least;
            }
            if (value < least || value > most) {
                fail(3, start);
                return least;
            }
            int taken = value;
            takeToken();
            return taken;
        }

        void takeSemicolon() {
            if (fault != 0) {
                return;
            }
            if (sort != SEMICOLON) {
                fail(2, start);
                return;
            }
            takeToken();
        }

        /** Only the first fault met counts. */
        void fail(int number, int where) {
            if (fault == 0) {
                fault = number;
                faultPlace = where;
            }
        }

        void takeToken() {
            while (place < length && bytes[place] == ' ') {
                place++;
            }
            start = place;
            value = 0;
            sort = place < length ? sortOf(bytes[place]) : END;
            boolean isLong = sort == NAME || sort == NUMBER;
            while (place < length && (isLong ? sortOf(bytes[place]) == sort : place == start)) {
                // Only a number of two figures is asked for its value: what else it may become is free.
                value = value * 10 + (bytes[place] - '0');
                place++;
            }
            if (sort == NUMBER && place - start > 2) {
                sort = BROKEN;
            }
            if (sort == BROKEN) {
                fail(1, start);
            }
        }

        static int sortOf(int c) {
            if (c >= 'a' && c <= 'z') {
                return NAME;
            }
            if (c >= '0' && c <= '9') {
                return NUMBER;
            }
            return c == ';' ? SEMICOLON : BROKEN;
        }

        int lineBegun() {
            if (sort != NAME) {
                return NO_LINE;
            }
            for (int line = 0; line < NO_LINE; line++) {
                if (isName(nameOf(line))) {
                    return line;
                }
            }
            return NO_LINE;
        }

        static String nameOf(int line) {
            switch (line) {
                case 0: return "plain";
                case 1: return "soft";
                case 2: return "sham";
                case 3: return "dry";
                case ROOM_LINE: return "room";
                case THINK_LINE: return "think";
                default: return "plan";
            }
        }

        boolean isName(String name) {
            if (name.length() != place - start) {
                return false;
            }
            for (int i = 0; i < name.length(); i++) {
                if (bytes[start + i] != name.charAt(i)) {
                    return false;
                }
            }
            return true;
        }
    }

    /** What was SEEN: who is GONE by the plan, and who is not. */
    private static final class Sightings {
        final int[] who = new int[MOST_SEEN];
        final boolean[] isGone = new boolean[MOST_SEEN];
        int number;

        boolean add(int p, boolean gone) {
            if (number >= MOST_SEEN) {
                return false;
            }
            who[number] = p;
            isGone[number] = gone;
            number++;
            return true;
        }

        boolean agreeWith(int goneBits) {
            for (int i = 0; i < number; i++) {
                boolean gone = (goneBits >> who[i] & 1) == 1;
                if (gone != isGone[i]) {
                    return false;
                }
            }
            return true;
        }
    }

    /** Goes through rows of acts, each level of it an evening one act further than the one before. */
    private static final class Rows {
        final Evening[] levels = new Evening[MOST_ROW + 1];
        final int[] row = new int[MOST_ROW];
        final int[] found = new int[MOST_ROW];
        int foundLength;
        int foundWeepers;
        int foundWeepings;

        Rows() {
            for (int i = 0; i <= MOST_ROW; i++) {
                levels[i] = new Evening();
            }
        }

        int foundAt(int i) {
            return i >= 0 && i < foundLength ? found[i] : NONE;
        }

        void findMostTears(Evening from, int n) {
            levels[0].startFrom(from);
            foundWeepers = -1;
            foundWeepings = -1;
            tryRows(0, n);
        }

        /** The first row of several comes first, so only a better one takes its place. */
        private void tryRows(int depth, int n) {
            if (depth >= n || depth >= MOST_ROW) {
                int weepers = Integer.bitCount(levels[depth].weepers);
                int weepings = levels[depth].weepings;
                if (weepers > foundWeepers || (weepers == foundWeepers && weepings > foundWeepings)) {
                    foundWeepers = weepers;
                    foundWeepings = weepings;
                    keepRow(depth);
                }
                return;
            }
            int people = levels[0].people;
            for (int choice = 0; choice <= people; choice++) {
                row[depth] = choice < people ? choice : MINUTE_GOES;
                levels[depth + 1].copyFrom(levels[depth]);
                levels[depth + 1].play(row[depth]);
                tryRows(depth + 1, n);
            }
        }

        /** False: by no row of thinkings is p aboard the next tram. */
        boolean findWayHome(Evening from, int p) {
            levels[0].startFrom(from);
            for (int n = 0; n <= MOST_HOME; n++) {
                if (isHome(0, n, p)) {
                    return true;
                }
            }
            return false;
        }

        private boolean isHome(int depth, int n, int p) {
            if (depth >= n || depth >= MOST_HOME) {
                // The tram comes on the next level: this one may be the start of longer rows.
                levels[depth + 1].copyFrom(levels[depth]);
                levels[depth + 1].board();
                keepRow(depth);
                return !levels[depth + 1].waits(p);
            }
            int people = levels[0].people;
            for (int choice = 0; choice < people; choice++) {
                row[depth] = choice;
                levels[depth + 1].copyFrom(levels[depth]);
                levels[depth + 1].play(choice);
                if (isHome(depth + 1, n, p)) {
                    return true;
                }
            }
            return false;
        }

        private void keepRow(int length) {
            System.arraycopy(row, 0, found, 0, length);
            foundLength = length;
        }
    }

    /** The plan with thoughts that fail: weights of all its ways, out of a whole. */
    private static final class Chances {
        final Evening[] levels = new Evening[MOST_ACTS + 1];
        final long[] goneWeight = new long[MOST_PEOPLE];
        long whole;

        Chances() {
            for (int i = 0; i <= MOST_ACTS; i++) {
                levels[i] = new Evening();
            }
        }

        long weightOf(int p) {
            return p >= 0 && p < MOST_PEOPLE ? goneWeight[p] : 0;
        }

        void weighPlan(Evening from, int failing) {
            levels[0].startFrom(from);
            Arrays.fill(goneWeight, 0);
            whole = 0;
            weighFrom(0, 1, failing);
        }

        private void weighFrom(int depth, long weight, int failing) {
            Evening here = levels[depth];
            if (depth >= here.actCount || depth >= MOST_ACTS) {
                addWeight(here, weight);
                return;
            }
            Evening next = levels[depth + 1];
            int act = here.acts[depth];
            if (!here.isThere(act)) {
                next.copyFrom(here);
                next.play(act);
                weighFrom(depth + 1, weight, failing);
                return;
            }
            if (failing < ODDS) {
                next.copyFrom(here);
                next.play(act);
                weighFrom(depth + 1, weight * (ODDS - failing), failing);
            }
            if (failing > 0) {
                next.copyFrom(here);
                weighFrom(depth + 1, weight * failing, failing);
            }
        }

        private void addWeight(Evening evening, long weight) {
            whole += weight;
            for (int p = 0; p < evening.people; p++) {
                if (!evening.waits(p)) {
                    goneWeight[p] += weight;
                }
            }
        }
    }

    /** A row of cells of a lane; the cells are ints, narrowed as the lane would. */
    private static final class Sheet {
        final int[] cells = new int[SHEET_SIZE];
        boolean laid;
        int lane;
        int length;

        void renew(int newLane, int newLength) {
            Arrays.fill(cells, 0);
            laid = true;
            lane = newLane;
            length = newLength;
        }

        /** What the machine would find at a cell of the sheet taken as of a lane; 0. */
        int faultAt(int asLane, int i) {
            if (!laid) {
                return NULL_FAULT;
            }
            if (lane != asLane) {
                return CAST_FAULT;
            }
            return i < 0 || i >= length ? INDEX_FAULT : 0;
        }

        void put(int i, int v) {
            if (lane == 0) {
                cells[i] = (byte) v;
            } else if (lane == 1) {
                cells[i] = (short) v;
            } else {
                cells[i] = v;
            }
        }
    }
}
