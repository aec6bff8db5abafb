import java.lang.reflect.InvocationTargetException;
import java.lang.reflect.Method;
import java.util.ArrayList;
import java.util.Comparator;
import java.util.List;
import java.util.Random;

/** Runs of calls by a fixed seed, on the class and on the plain model of the document: each answer is to be the same. */
public final class RandomRuns {
    private static final int RUNS = 1500;
    private static final int CALLS = 512;
    private static final int[] EXTREMES = {
        -1, -2, 5, 6, 7, 8, 9, 10, 11, 12, 13, 14, 20, 21, 40, 41, 60, 61, 127, 128, 160, 161,
        Integer.MIN_VALUE, Integer.MAX_VALUE, Integer.MAX_VALUE - 5, 65536 + 5, 256 + 6};
    private static final String[] WORDS = {
        "plain", "soft", "sham", "dry", "room", "think", "plan", "plains", "x", "0", "1", "2", "3", "4", "5", "6", "7",
        "9", "10", "40", "41", "99", "007", ";", ";", ";", ";", " ", "?", "A", "{", "`", "/", ":", "\t"};

    private final Random random;
    private final List<Method> calls = new ArrayList<>();
    private int wrong = 0;

    private RandomRuns(long seed) {
        random = new Random(seed);
        for (Method m : TearsQueue.class.getDeclaredMethods()) {
            if (java.lang.reflect.Modifier.isPublic(m.getModifiers())) {
                calls.add(m);
            }
        }
        calls.sort(Comparator.comparing(Method::getName));
    }

    public static void main(String[] args) throws Exception {
        RandomRuns runs = new RandomRuns(20261118L);
        long asked = 0;
        for (int run = 0; run < RUNS && runs.wrong < 10; run++) {
            asked += runs.one(run);
        }
        System.out.println(asked + " answers asked, " + runs.wrong + " not as due");
        if (runs.wrong != 0) {
            System.exit(1);
        }
    }

    private int one(int run) throws Exception {
        TearsQueue x = new TearsQueue();
        TearsModel y = new TearsModel();
        StringBuilder log = new StringBuilder();
        int done = 0;
        while (done < CALLS) {
            if (done == 0 || random.nextInt(60) == 0) {
                String text = random.nextInt(4) == 0 ? brokenText() : soundText();
                log.append(" '").append(text).append("'");
                for (int i = 0; i < text.length() && done < CALLS - 1; i++, done++) {
                    same(run, log, "feed", x.feed(text.charAt(i)), y.feed(text.charAt(i)));
                }
                same(run, log, "text", x.text(), y.text());
                same(run, log, "fault", x.fault(), y.fault());
                done += 2;
            } else if (random.nextInt(20) == 0) {
                done += laySheet(run, log, x, y);
            } else {
                Method m = anyCall();
                Object[] with = arguments(m);
                log.append(' ').append(m.getName()).append(java.util.Arrays.toString(with));
                same(run, log, m.getName(), answer(m, x, with), answer(model(m), y, with));
                done++;
            }
            if (wrong > 0) {
                break;
            }
        }
        return done;
    }

    /** text() of an empty tape leaves nobody behind, so it comes seldom. */
    private Method anyCall() {
        Method m = calls.get(random.nextInt(calls.size()));
        return m.getName().equals("text") && random.nextInt(8) != 0 ? anyCall() : m;
    }

    private static Method model(Method m) throws NoSuchMethodException {
        return TearsModel.class.getDeclaredMethod(m.getName(), m.getParameterTypes());
    }

    private static long answer(Method m, Object on, Object[] with) throws Exception {
        try {
            return ((Number) m.invoke(on, with)).longValue();
        } catch (InvocationTargetException e) {
            throw new IllegalStateException(m.getName() + java.util.Arrays.toString(with), e.getCause());
        }
    }

    private void same(int run, StringBuilder log, String call, long got, long want) {
        if (got != want) {
            wrong++;
            System.out.println("run " + run + ": " + call + " answered " + got + ", due is " + want + ", behind" + log);
        }
    }

    private int laySheet(int run, StringBuilder log, TearsQueue x, TearsModel y) {
        int k = random.nextInt(4);
        int lane = random.nextInt(3);
        int n = random.nextInt(8);
        log.append(" sheet").append(k).append(lane).append(n);
        same(run, log, "sheet", x.sheet(k, lane, n), y.sheet(k, lane, n));
        for (int i = 0; i < n; i++) {
            int v = random.nextInt(12) == 0 ? anyNumber() : random.nextInt(7);
            log.append(" lay").append(v);
            same(run, log, "lay", x.lay(k, i, v), y.lay(k, i, v));
        }
        return 1 + n;
    }

    private Object[] arguments(Method m) {
        Object[] with = new Object[m.getParameterCount()];
        for (int i = 0; i < with.length; i++) {
            if (m.getParameterTypes()[i] == boolean.class) {
                with[i] = random.nextBoolean();
            } else {
                with[i] = random.nextInt(7) == 0 ? anyNumber() : random.nextInt(fitting(m.getName(), i));
            }
        }
        if ((m.getName().equals("best") || m.getName().equals("home")) && random.nextBoolean()) {
            with[1] = 10 + random.nextInt(4);
        }
        return with;
    }

    /** How far an argument goes that is likely to be taken. */
    private static int fitting(String call, int i) {
        switch (call + i) {
            case "feed0": return 128;
            case "end0": return 20;
            case "drift0": return 1 << 30;
            case "drift1": return 61;
            case "alter2": return 20;
            case "minutes0": return 9;
            case "luck0": case "mean0": return 11;
            case "luck2": case "mean1": case "ahead1": case "ask1": case "swap0": case "drift2": case "best1": return 2;
            case "home1": return 1;
            case "rule0": case "plan0": return 7;
            case "read3": return 9;
            case "sheet1": case "read1": return 3;
            case "keep0": case "back0": return 2;
            default: return 5;
        }
    }

    private int anyNumber() {
        return random.nextInt(4) == 0 ? random.nextInt() : EXTREMES[random.nextInt(EXTREMES.length)];
    }

    private String soundText() {
        StringBuilder s = new StringBuilder();
        int people = random.nextInt(12) == 0 ? 0 : 1 + random.nextInt(5);
        for (int p = 0; p < people; p++) {
            s.append(WORDS[random.nextInt(4)]);
            if (random.nextInt(4) != 0) {
                s.append(' ').append(random.nextInt(random.nextInt(5) == 0 ? 41 : 11));
            }
            s.append(";");
        }
        if (random.nextBoolean()) {
            s.append("room ").append(1 + random.nextInt(random.nextBoolean() ? 2 : 5)).append("; ");
        }
        if (random.nextBoolean()) {
            s.append("think ").append(1 + random.nextInt(9)).append(";");
        }
        s.append("plan");
        int acts = random.nextInt(9);
        for (int i = 0; i < acts; i++) {
            int act = random.nextInt(people + 2);
            s.append(' ').append(act < people ? act : act == people ? 5 : 6);
        }
        return s.append(";").toString();
    }

    private String brokenText() {
        StringBuilder s = new StringBuilder();
        if (random.nextBoolean()) {
            s.append(soundText());
            int at = random.nextInt(s.length());
            if (random.nextBoolean()) {
                s.setCharAt(at, WORDS[random.nextInt(WORDS.length)].charAt(0));
            } else {
                s.insert(at, WORDS[random.nextInt(WORDS.length)]);
            }
        } else {
            int words = random.nextInt(12);
            for (int i = 0; i < words; i++) {
                s.append(WORDS[random.nextInt(WORDS.length)]).append(random.nextBoolean() ? " " : "");
            }
        }
        return s.toString();
    }
}
