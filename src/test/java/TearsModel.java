import java.math.BigInteger;
import java.util.ArrayList;
import java.util.Arrays;
import java.util.Comparator;
import java.util.List;
import java.util.Set;
import java.util.TreeSet;
import java.util.function.BiFunction;
import java.util.regex.Matcher;
import java.util.regex.Pattern;

/** The document said once more, in another way: everything copied, every row and every way gone through. */
final class TearsModel {
    static final int BAD = -1, STATE = -2, FULL = -3, NONE = -4;
    private static final List<String> KINDS = List.of("plain", "soft", "sham", "dry");

    private static final class Person {
        int kind;
        int sorrow;
        boolean gone;
        Integer wept;

        Person(int kind, int sorrow) {
            this.kind = kind;
            this.sorrow = sorrow;
        }

        Person copy() {
            Person q = new Person(kind, sorrow);
            q.gone = gone;
            q.wept = wept;
            return q;
        }

        int brim() {
            return kind == 0 ? 10 : kind == 1 ? 10 / 2 : kind == 2 ? 10 / 2 - 1 : 10 * 2;
        }

        boolean hasFrost() {
            return kind == 2 && sorrow == 0;
        }
    }

    private static final class World {
        List<Person> people = new ArrayList<>();
        List<Integer> plan = new ArrayList<>();
        int minute = 0;
        int room = 2;
        int think = 4;
        List<Integer> tears = new ArrayList<>();

        World copy() {
            World w = new World();
            people.forEach(p -> w.people.add(p.copy()));
            w.plan.addAll(plan);
            w.minute = minute;
            w.room = room;
            w.think = think;
            return w;
        }

        List<Integer> line() {
            List<Integer> line = new ArrayList<>();
            for (int p = 0; p < people.size(); p++) {
                if (!people.get(p).gone) {
                    line.add(p);
                }
            }
            List<Integer> frost = new ArrayList<>(line);
            frost.removeIf(p -> !people.get(p).hasFrost());
            line.removeAll(frost);
            line.sort(Comparator
                .comparing((Integer p) -> people.get(p).wept == null)
                .thenComparing(p -> people.get(p).wept == null ? 0 : -people.get(p).wept)
                .thenComparing(p -> p));
            line.addAll(frost);
            return line;
        }

        int tram() {
            int bits = 0;
            List<Integer> line = line();
            for (int p : line.subList(0, Math.min(room, line.size()))) {
                people.get(p).gone = true;
                bits |= 1 << p;
            }
            return bits;
        }

        void minute() {
            for (Person p : people) {
                if (!p.gone && p.sorrow > 0) {
                    p.sorrow--;
                }
            }
            if (minute < 999) {
                minute++;
            }
        }

        int think(int who) {
            Person thinker = people.get(who);
            thinker.sorrow = Math.min(40, thinker.sorrow + think);
            Set<Integer> wept = new TreeSet<>();
            boolean again = true;
            while (again) {
                again = false;
                for (int p = 0; p < people.size() && !again; p++) {
                    Person one = people.get(p);
                    if (!one.gone && one.sorrow >= one.brim() && wept.add(p)) {
                        again = true;
                        one.wept = minute;
                        one.sorrow = 0;
                        tears.add(p);
                        setOff(p);
                    }
                }
            }
            return wept.stream().mapToInt(p -> 1 << p).sum();
        }

        private void setOff(int p) {
            for (int q = p - 1; q >= 0; q--) {
                if (!people.get(q).gone) {
                    people.get(q).sorrow = Math.min(40, people.get(q).sorrow + 2);
                    break;
                }
            }
            for (int q = p + 1; q < people.size(); q++) {
                if (!people.get(q).gone) {
                    people.get(q).sorrow = Math.min(40, people.get(q).sorrow + 2);
                    break;
                }
            }
        }

        boolean does(int act) {
            if (act == 5) {
                minute();
            } else if (act == 6) {
                tram();
            } else if (people.get(act).gone) {
                return false;
            } else {
                think(act);
            }
            return true;
        }

        World byPlan() {
            World w = copy();
            for (int act : plan) {
                w.does(act);
            }
            return w;
        }

        int gone() {
            int bits = 0;
            for (int p = 0; p < people.size(); p++) {
                bits |= people.get(p).gone ? 1 << p : 0;
            }
            return bits;
        }

        int sorrow() {
            return people.stream().filter(p -> !p.gone).mapToInt(p -> p.sorrow).sum();
        }
    }

    private static final class Refused extends RuntimeException {
        private static final long serialVersionUID = 1L;
        final int number;
        final int place;

        Refused(int number, int place) {
            this.number = number;
            this.place = place;
        }
    }

    private World w = new World();
    private final StringBuilder tape = new StringBuilder();
    private final World[] images = new World[2];
    private final List<int[]> seen = new ArrayList<>();
    private final Object[] sheets = new Object[4];
    private int fault = 0;
    private int torn = 0;

    private boolean no(int p) {
        return p < 0 || p >= w.people.size();
    }

    int feed(int c) {
        if (c < 0 || c > 127) {
            return BAD;
        }
        if (tape.length() == 160) {
            return FULL;
        }
        tape.append((char) c);
        return tape.length();
    }

    int end(int n) {
        int had = tape.length();
        if (n < 0 || n > had) {
            return BAD;
        }
        tape.setLength(n);
        return had;
    }

    // ---- the text: tokens by patterns, each taken when it is asked for

    private static final Pattern TOKEN = Pattern.compile(" *([a-z]+|[0-9]+|;|\\z|(?s:.))");

    private static final class Source {
        final String text;
        int from = 0;
        int place;
        String token;

        Source(String text) {
            this.text = text;
            step();
        }

        void step() {
            Matcher m = TOKEN.matcher(text);
            if (!m.find(from) || m.start() != from) {
                throw new IllegalStateException("no token in " + text);
            }
            token = m.group(1);
            place = m.start(1);
            from = m.end();
            if (token.length() > 2 && token.charAt(0) <= '9' && token.charAt(0) >= '0') {
                throw new Refused(1, place);
            }
            if (token.length() == 1 && !token.matches("[a-z0-9;]")) {
                throw new Refused(1, place);
            }
        }

        boolean isNumber() {
            return token.matches("[0-9]+");
        }

        int number(int least, int most) {
            if (!isNumber()) {
                throw new Refused(2, place);
            }
            int v = Integer.parseInt(token);
            if (v < least || v > most) {
                throw new Refused(3, place);
            }
            step();
            return v;
        }
    }

    int text() {
        String all = tape.toString();
        tape.setLength(0);
        World made = new World();
        try {
            int lines = told(all, made);
            fault = 0;
            w = made;
            seen.clear();
            Arrays.fill(images, null);
            return lines;
        } catch (Refused r) {
            fault = r.number;
            return -10 - r.place;
        }
    }

    private static int told(String all, World made) {
        Source s = new Source(all);
        Set<String> settings = new TreeSet<>();
        int lines = 0;
        while (!s.token.isEmpty()) {
            String name = s.token;
            int at = s.place;
            if (KINDS.contains(name)) {
                if (made.people.size() == 5) {
                    throw new Refused(5, at);
                }
                s.step();
                made.people.add(new Person(KINDS.indexOf(name), s.isNumber() ? s.number(0, 40) : 0));
            } else if (List.of("room", "think", "plan").contains(name)) {
                if (!settings.add(name)) {
                    throw new Refused(4, at);
                }
                s.step();
                setting(s, name, made);
            } else {
                throw new Refused(2, at);
            }
            if (!s.token.equals(";")) {
                throw new Refused(2, s.place);
            }
            s.step();
            lines++;
        }
        if (made.plan.stream().anyMatch(a -> a < 5 && a >= made.people.size())) {
            throw new Refused(6, all.length());
        }
        return lines;
    }

    private static void setting(Source s, String name, World made) {
        if (name.equals("room")) {
            made.room = s.number(1, 5);
        } else if (name.equals("think")) {
            made.think = s.number(1, 9);
        } else {
            while (s.isNumber()) {
                if (made.plan.size() == 8) {
                    throw new Refused(5, s.place);
                }
                made.plan.add(s.number(0, 6));
            }
        }
    }

    int fault() {
        return fault;
    }

    int rule(int what) {
        int waits = ((1 << w.people.size()) - 1) ^ w.gone();
        int[] all = {w.people.size(), w.minute, w.room, w.think, w.plan.size(), waits, w.sorrow()};
        return what < 0 || what > 6 ? BAD : all[what];
    }

    int one(int p, int what) {
        if (no(p) || what < 0 || what > 4) {
            return BAD;
        }
        Person o = w.people.get(p);
        return new int[] {o.kind, o.sorrow, o.wept == null ? NONE : o.wept, o.brim(), o.gone ? 1 : 0}[what];
    }

    int act(int i) {
        return i < 0 || i >= w.plan.size() ? BAD : w.plan.get(i);
    }

    int queue(int i) {
        return i < 0 || i > 4 ? BAD : i < w.line().size() ? w.line().get(i) : NONE;
    }

    int alter(int p, int what, int v) {
        if (no(p) || what < 0 || what > 1 || v < 0 || v > (what == 0 ? 3 : 40)) {
            return BAD;
        }
        Person o = w.people.get(p);
        int was = what == 0 ? o.kind : o.sorrow;
        o.kind = what == 0 ? v : o.kind;
        o.sorrow = what == 1 ? v : o.sorrow;
        return was;
    }

    int room(int v) {
        int was = w.room;
        if (v < 1 || v > 5) {
            return BAD;
        }
        w.room = v;
        return was;
    }

    int think(int v) {
        int was = w.think;
        if (v < 1 || v > 9) {
            return BAD;
        }
        w.think = v;
        return was;
    }

    private boolean noAct(int act) {
        return act < 0 || act > 6 || (act < 5 && no(act));
    }

    int plan(int act) {
        if (noAct(act)) {
            return BAD;
        }
        if (w.plan.size() == 8) {
            return FULL;
        }
        w.plan.add(act);
        return w.plan.size();
    }

    int cut(int n) {
        int had = w.plan.size();
        if (n < 0 || n > had) {
            return BAD;
        }
        w.plan = new ArrayList<>(w.plan.subList(0, n));
        return had;
    }

    int thinks(int p) {
        return no(p) ? BAD : w.people.get(p).gone ? STATE : w.think(p);
    }

    int minutes(int n) {
        if (n < 0 || n > 60) {
            return BAD;
        }
        for (int i = 0; i < n; i++) {
            w.minute();
        }
        return w.sorrow();
    }

    int tram() {
        return w.tram();
    }

    int joy(int p) {
        if (no(p)) {
            return BAD;
        }
        Person o = w.people.get(p);
        if (o.gone) {
            return STATE;
        }
        int was = o.sorrow;
        o.sorrow = 0;
        o.wept = null;
        return was;
    }

    int second() {
        int n = Integer.bitCount(w.gone());
        w.people.forEach(o -> o.gone = false);
        return n;
    }

    int runs(int what) {
        if (what < 0 || what > 4) {
            return BAD;
        }
        World v = w.copy();
        int passed = NONE;
        for (int i = 0; i < w.plan.size(); i++) {
            boolean done = v.does(w.plan.get(i));
            passed = !done && passed == NONE ? i : passed;
        }
        int weepers = v.tears.stream().distinct().mapToInt(p -> 1 << p).sum();
        return new int[] {v.gone(), weepers, v.tears.size(), passed, v.sorrow()}[what];
    }

    int ahead(int p, int what) {
        if (no(p) || what < 0 || what > 1) {
            return BAD;
        }
        Person o = w.byPlan().people.get(p);
        return what == 0 ? o.sorrow : o.wept == null ? NONE : o.wept;
    }

    int soon(int p) {
        if (no(p)) {
            return BAD;
        }
        for (int k = 0; k <= 9 && !w.people.get(p).gone; k++) {
            World v = w.copy();
            for (int i = 0; i < k; i++) {
                v.think(p);
            }
            if (v.line().get(0) == p) {
                return k;
            }
        }
        return NONE;
    }

    /** The number-th row of n acts, each by its place among so many. */
    private static int[] rowOf(int number, int n, int many) {
        int[] row = new int[n];
        for (int i = n - 1; i >= 0; i--) {
            row[i] = number % many;
            number /= many;
        }
        return row;
    }

    private static int power(int base, int n) {
        int all = 1;
        for (int i = 0; i < n; i++) {
            all *= base;
        }
        return all;
    }

    int best(int n, int what) {
        if (n < 0 || n > 4 || what < 0 || (what > 1 && what < 10)) {
            return BAD;
        }
        int many = w.people.size() + 1;
        long most = -1;
        int often = 0;
        int[] found = null;
        for (int number = 0; number < power(many, n); number++) {
            int[] row = rowOf(number, n, many);
            World v = w.copy();
            for (int a : row) {
                v.does(a == many - 1 ? 5 : a);
            }
            long people = v.tears.stream().distinct().count();
            if (people > most || (people == most && v.tears.size() > often)) {
                most = people;
                often = v.tears.size();
                found = row;
            }
        }
        if (what >= 10) {
            return what - 10 >= n ? NONE : found[what - 10] == many - 1 ? 5 : found[what - 10];
        }
        return what == 0 ? (int) most : often;
    }

    int home(int p, int what) {
        if (no(p) || (what != 0 && what != 10 && what != 11 && what != 12)) {
            return BAD;
        }
        if (w.people.get(p).gone) {
            return STATE;
        }
        for (int n = 0; n <= 3; n++) {
            for (int number = 0; number < power(w.people.size(), n); number++) {
                int[] row = rowOf(number, n, w.people.size());
                World v = w.copy();
                for (int a : row) {
                    v.does(a);
                }
                if ((v.tram() >> p & 1) == 1) {
                    return what == 0 ? n : what - 10 < n ? row[what - 10] : NONE;
                }
            }
        }
        return NONE;
    }

    int swap(int what) {
        if (what < 0 || what > 1) {
            return BAD;
        }
        int most = Integer.bitCount(w.byPlan().gone());
        int found = NONE;
        for (int places = 0; places < 100; places++) {
            int i = places / 10;
            int j = places % 10;
            if (i < j && j < w.plan.size()) {
                World v = w.copy();
                v.plan.set(i, w.plan.get(j));
                v.plan.set(j, w.plan.get(i));
                int gone = Integer.bitCount(v.byPlan().gone());
                if (gone > most) {
                    most = gone;
                    found = places;
                }
            }
        }
        return found == NONE ? NONE : what == 0 ? found : most;
    }

    int enough() {
        for (int room = 1; room <= 5; room++) {
            World v = w.copy();
            v.room = room;
            if (v.byPlan().gone() == (1 << w.people.size()) - 1) {
                return room;
            }
        }
        return NONE;
    }

    /** Every way of the thinkings to fail, and what a measure says of who is GONE then. */
    private long odds(int v, int what, BiFunction<Integer, Integer, Integer> measure, int p) {
        List<Integer> thinkings = new ArrayList<>();
        for (int i = 0; i < w.plan.size(); i++) {
            if (w.plan.get(i) < 5) {
                thinkings.add(i);
            }
        }
        BigInteger sum = BigInteger.ZERO;
        for (int fails = 0; fails < 1 << thinkings.size(); fails++) {
            World x = w.copy();
            BigInteger weight = BigInteger.ONE;
            for (int i = 0; i < w.plan.size(); i++) {
                int place = thinkings.indexOf(i);
                boolean failed = place >= 0 && (fails >> place & 1) == 1;
                if (place >= 0) {
                    weight = weight.multiply(BigInteger.valueOf(failed ? v : 10 - v));
                }
                if (!failed) {
                    x.does(w.plan.get(i));
                }
            }
            sum = sum.add(weight.multiply(BigInteger.valueOf(measure.apply(x.gone(), p))));
        }
        BigInteger whole = BigInteger.TEN.pow(thinkings.size());
        return (what == 0 ? sum : whole).divide(sum.gcd(whole)).longValueExact();
    }

    long luck(int v, int p, int what) {
        if (v < 0 || v > 10 || no(p) || what < 0 || what > 1) {
            return BAD;
        }
        return odds(v, what, (gone, q) -> gone >> q & 1, p);
    }

    long mean(int v, int what) {
        if (v < 0 || v > 10 || what < 0 || what > 1) {
            return BAD;
        }
        return odds(v, what, (gone, q) -> Integer.bitCount(gone), 0);
    }

    int see(int p, boolean gone) {
        if (no(p)) {
            return BAD;
        }
        if (seen.size() == 6) {
            return FULL;
        }
        seen.add(new int[] {p, gone ? 1 : 0});
        return seen.size();
    }

    int forget(int n) {
        int had = seen.size();
        if (n < 0 || n > had) {
            return BAD;
        }
        seen.subList(n, had).clear();
        return had;
    }

    private boolean asSeen(World v) {
        int gone = v.byPlan().gone();
        return seen.stream().allMatch(s -> (gone >> s[0] & 1) == s[1]);
    }

    int kinds(int p) {
        if (no(p)) {
            return BAD;
        }
        int bits = 0;
        for (int k = 0; k < 4; k++) {
            World v = w.copy();
            v.people.get(p).kind = k;
            bits |= asSeen(v) ? 1 << k : 0;
        }
        return bits;
    }

    int sorrows(int p) {
        if (no(p)) {
            return BAD;
        }
        int bits = 0;
        for (int s = 0; s <= 20; s++) {
            World v = w.copy();
            v.people.get(p).sorrow = s;
            bits |= asSeen(v) ? 1 << s : 0;
        }
        return bits;
    }

    int ask(int p, int what) {
        if (no(p) || what < 0 || what > 1) {
            return BAD;
        }
        int least = Integer.bitCount(sorrows(p));
        int found = NONE;
        List<int[]> was = new ArrayList<>(seen);
        for (int q = 0; q < w.people.size(); q++) {
            int worst = 0;
            for (int gone = 0; gone < 2; gone++) {
                seen.add(new int[] {q, gone});
                worst = Math.max(worst, Integer.bitCount(sorrows(p)));
                seen.clear();
                seen.addAll(was);
            }
            if (worst < least) {
                least = worst;
                found = q;
            }
        }
        return found == NONE ? NONE : what == 0 ? found : least;
    }

    int drift(int seed, int n, int what) {
        if (n < 1 || n > 60 || what < 0 || what > 1) {
            return BAD;
        }
        if (w.people.isEmpty()) {
            return STATE;
        }
        World v = w.copy();
        BigInteger two32 = BigInteger.ONE.shiftLeft(32);
        BigInteger s = BigInteger.valueOf(seed);
        for (int i = 0; i < n; i++) {
            s = s.multiply(BigInteger.valueOf(1103515245)).add(BigInteger.valueOf(12345)).mod(two32);
            int pick = s.shiftRight(16).intValueExact() % 32768 % (w.people.size() + 1);
            v.does(pick == w.people.size() ? 5 : pick);
        }
        return what == 0 ? v.tears.size() : v.line().isEmpty() ? NONE : v.line().get(0);
    }

    int keep(int k) {
        if (k < 0 || k > 1) {
            return BAD;
        }
        int was = images[k] == null ? 0 : 1;
        images[k] = w.copy();
        return was;
    }

    int back(int k) {
        if (k < 0 || k > 1) {
            return BAD;
        }
        if (images[k] == null) {
            return STATE;
        }
        w = images[k].copy();
        return w.minute;
    }

    // ---- sheets: real rows, whose faults the machine itself finds

    int sheet(int k, int lane, int n) {
        if (k < 0 || k > 3 || lane < 0 || lane > 2 || n > 40) {
            return BAD;
        }
        try {
            sheets[k] = lane == 0 ? new byte[n] : lane == 1 ? (Object) new short[n] : new int[n];
            return 1;
        } catch (NegativeArraySizeException e) {
            return -14;
        }
    }

    int lay(int k, int i, int v) {
        if (k < 0 || k > 3) {
            return BAD;
        }
        try {
            if (sheets[k] instanceof byte[] row) {
                row[i] = (byte) v;
            } else if (sheets[k] instanceof short[] row) {
                row[i] = (short) v;
            } else {
                ((int[]) sheets[k])[i] = v;
            }
            return 1;
        } catch (NullPointerException e) {
            return -11;
        } catch (ArrayIndexOutOfBoundsException e) {
            return -12;
        }
    }

    int read(int k, int lane, int f, int n) {
        if (k < 0 || k > 3 || lane < 0 || lane > 2 || n < 0 || n > 20) {
            return BAD;
        }
        World v = w.copy();
        int i = 0;
        int met = 0;
        try {
            for (; i < n; i++) {
                int act = lane == 0 ? ((byte[]) sheets[k])[f + i]
                    : lane == 1 ? ((short[]) sheets[k])[f + i] : ((int[]) sheets[k])[f + i];
                if (noAct(act) || !v.does(act)) {
                    return -20 - i;
                }
            }
        } catch (NullPointerException e) {
            met = 1;
        } catch (ArrayIndexOutOfBoundsException e) {
            met = 2;
        } catch (ClassCastException e) {
            met = 3;
        }
        w = v;
        torn = met;
        return i;
    }

    int torn() {
        return torn;
    }

    int count(int what) {
        switch (what) {
            case 0: return seen.size();
            case 1: return (images[0] == null ? 0 : 1) + (images[1] == null ? 0 : 1);
            case 2: return tape.length();
            case 3: return sheets[0] == null ? NONE : java.lang.reflect.Array.getLength(sheets[0]);
            case 4: return (int) w.people.stream().filter(p -> p.wept != null).count();
            case 5: return (int) w.plan.stream().filter(a -> a == 6).count();
            default: return BAD;
        }
    }
}
