import java.lang.reflect.Method;
import java.util.ArrayList;
import java.util.Comparator;
import java.util.List;
import java.util.function.Supplier;

/** Runs the tests of a class, each of which is for words of the document that it quotes. */
final class Sentences {
    static final int BAD = -1, STATE = -2, FULL = -3, NONE = -4;

    interface Call {
        long of(TearsQueue x);
    }

    private static Says now;

    private Sentences() {
    }

    static List<Method> testsOf(Class<?> tests) {
        List<Method> found = new ArrayList<>();
        for (Method method : tests.getDeclaredMethods()) {
            if (method.isAnnotationPresent(Says.class)) {
                found.add(method);
            }
        }
        found.sort(Comparator.comparingInt((Method m) -> m.getAnnotation(Says.class).of())
                .thenComparing(Method::getName));
        return found;
    }

    static void run(Class<?> tests) throws ReflectiveOperationException {
        List<Method> found = testsOf(tests);
        for (Method method : found) {
            now = method.getAnnotation(Says.class);
            int asked = Checks.asked();
            method.setAccessible(true);
            method.invoke(null);
            Checks.holds(method.getName() + " asks nothing", Checks.asked() > asked);
        }
        System.out.println(found.size() + " sentences");
        Checks.finish();
    }

    static void due(String call, long got, long want) {
        Checks.due(now.of(), "'" + now.value() + "': " + call, got, want);
    }

    /** The call answers so and changes nothing. */
    static void leavesAll(Supplier<TearsQueue> made, String name, Call call, long want) {
        TearsQueue x = made.get();
        TearsQueue twin = made.get();
        due(name, call.of(x), want);
        Checks.holds("promise " + now.of() + ": " + name + " changes something",
                Busy.everything(x).equals(Busy.everything(twin)));
    }

    static void leavesAll(String name, Call call, long want) {
        leavesAll(Busy::made, name, call, want);
    }

    /** Whatever the call answers, it answers so again, and changes nothing. */
    static void onlyAsks(String name, Call call) {
        leavesAll(name, call, call.of(Busy.made()));
    }

    /** Numbers that are not least to most. */
    static int[] beyond(int least, int most) {
        return new int[] {least - 1, most + 1, Integer.MIN_VALUE, Integer.MAX_VALUE};
    }

    /** A text told to a new object. */
    static void text(String text, int answer, int fault) {
        TearsQueue x = new TearsQueue();
        Checks.feedAll(x, text);
        due("text() of '" + text + "'", x.text(), answer);
        due("fault() of '" + text + "'", x.fault(), fault);
    }

    static void queueIs(TearsQueue x, int... order) {
        for (int i = 0; i < 5; i++) {
            due("queue(" + i + ")", x.queue(i), i < order.length ? order[i] : NONE);
        }
    }
}
