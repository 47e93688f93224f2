import java.lang.reflect.InvocationTargetException;
import java.lang.reflect.Method;
import java.util.ArrayList;
import java.util.Arrays;
import java.util.Comparator;
import java.util.List;

/** What the tests of single sentences share: each is a static method named after its promise, as promise2FeedTheLeast. */
class Sentences {
    static final int NONE = -1, BAD = -2, STATE = -3, FULL = -4, NOTHING = -5, STRANGER = -6;
    static final int NONE_FAR = -100001, BAD_FAR = -100002;
    static final long NO = Long.MIN_VALUE;
    static final int LOWEST = Integer.MIN_VALUE, HIGHEST = Integer.MAX_VALUE;

    static final int JUDGE = 0, LAST = 1, NEAR = 2, MOST = 3, ORDERLY = 4, STRICT = 5, TOLD = 6;

    interface Setting {
        OtherwiseCourt make();
    }

    interface Call {
        long on(OtherwiseCourt x);
    }

    Sentences() {
    }

    // ---- running

    /** Runs the tests of a class one by one; ends with exit code 1 if one fails or a promise has none. */
    static void runAll(Class<?> tests, int firstPromise, int lastPromise) throws IllegalAccessException {
        Method[] methods = tests.getDeclaredMethods();
        Arrays.sort(methods, Comparator.comparing(Method::getName));
        boolean[] tested = new boolean[lastPromise + 1];
        int ran = 0;
        int failed = 0;
        for (Method method : methods) {
            if (method.getName().matches("promise\\d+[A-Z].*")) {
                tested[Integer.parseInt(method.getName().replaceAll("promise(\\d+).*", "$1"))] = true;
                ran++;
                failed += passes(method) ? 0 : 1;
            }
        }
        for (int promise = firstPromise; promise <= lastPromise; promise++) {
            if (!tested[promise]) {
                failed++;
                System.out.println("promise " + promise + " has no test");
            }
        }
        System.out.println(tests.getName() + ": " + ran + " tests, " + failed + " failed");
        if (failed != 0) {
            System.exit(1);
        }
    }

    private static boolean passes(Method method) throws IllegalAccessException {
        try {
            method.setAccessible(true);
            method.invoke(null);
            return true;
        } catch (InvocationTargetException failure) {
            System.out.println("FAILED " + method.getName() + ": " + failure.getCause());
            for (StackTraceElement place : failure.getCause().getStackTrace()) {
                if (place.getMethodName().equals(method.getName())) {
                    System.out.println("  at " + place);
                }
            }
            return false;
        }
    }

    static void due(long got, long want) {
        if (got != want) {
            throw new AssertionError("answered " + got + ", due is " + want);
        }
    }

    /** The call has the same answer with each of these numbers. */
    static void dueWithEach(Numbered call, long want, int... numbers) {
        for (int number : numbers) {
            long got = call.with(number);
            if (got != want) {
                throw new AssertionError("answered " + got + " with " + number + ", due is " + want);
            }
        }
    }

    interface Numbered {
        long with(int number);
    }

    // ---- settings

    /** Suits with these points; each is worth 10 times its number and 10. */
    static OtherwiseCourt suits(int... points) {
        OtherwiseCourt x = new OtherwiseCourt();
        for (int i = 0; i < points.length; i++) {
            x.suit(points[i], 10 * i + 10);
        }
        return x;
    }

    static void feed(OtherwiseCourt x, String text) {
        for (int i = 0; i < text.length(); i++) {
            x.feed(text.charAt(i));
        }
    }

    static int court(OtherwiseCourt x, String text) {
        feed(x, text);
        return x.court();
    }

    /** Entries as entry(k) tells them: 2 times the suit, and 1, if it was decided for it. */
    static void enter(OtherwiseCourt x, int... entries) {
        for (int entry : entries) {
            x.enter(entry / 2, entry % 2 == 1);
        }
    }

    static void enterTimes(OtherwiseCourt x, int times, int entry) {
        for (int k = 0; k < times; k++) {
            enter(x, entry);
        }
    }

    static void queue(OtherwiseCourt x, int... suits) {
        for (int suit : suits) {
            x.queue(suit);
        }
    }

    static OtherwiseCourt nothing() {
        return new OtherwiseCourt();
    }

    /** Something of all there can be, and an image that is unlike it. */
    static OtherwiseCourt some() {
        OtherwiseCourt x = suits(7, 6);
        x.judge(LAST, 1);
        court(x, "bar 3");
        x.day(2);
        enter(x, 3);
        queue(x, 1);
        feed(x, "bar");
        x.image();
        x.suit(56, 30);
        x.judge(TOLD, 2);
        x.judge(ORDERLY, 5);
        x.row(1, 0, 1);
        x.row(1, 3, 2);
        x.day(6);
        feed(x, " 9");
        x.court();
        court(x, "weigh 2 p<2;clash 1 p=5;bar 1");
        enter(x, 0, 4, 5);
        queue(x, 2, 0);
        feed(x, "bar 7");
        x.act(2, 2, 9);
        return x;
    }

    /** As much of all as there can be. */
    static OtherwiseCourt full() {
        OtherwiseCourt x = suits(7, 6, 56, 3, 255, 0, 5, 63);
        x.image();
        for (int kind : new int[] {LAST, TOLD, MOST, NEAR}) {
            x.judge(kind, kind + 2);
        }
        x.row(1, 2, 1);
        for (int n = 0; n < 5; n++) {
            court(x, "bar " + (5 - n));
        }
        for (int k = 0; k < 24; k++) {
            x.enter(k * 5 % 8, k % 3 == 0);
        }
        queue(x, 0, 1, 2, 3, 4, 5, 6, 7);
        feed(x, longCourt());
        x.day(9);
        x.act(2, 2, 9);
        return x;
    }

    /** A court of 100 signs. */
    static String longCourt() {
        return "weigh 10 p=1" + "|p=2".repeat(22);
    }

    // ---- nothing is changed

    /** The call is answered so, and the object is then as one on which it was not made. */
    static void changesNothing(Setting setting, long answer, Call call) {
        OtherwiseCourt asked = setting.make();
        due(call.on(asked), answer);
        staysAs(setting, asked);
    }

    static void changesNothing(Setting setting, Call call) {
        OtherwiseCourt asked = setting.make();
        call.on(asked);
        staysAs(setting, asked);
    }

    private static void staysAs(Setting setting, OtherwiseCourt asked) {
        sameAnswers(all(asked), all(setting.make()));
    }

    static void sameAnswers(List<String> after, List<String> before) {
        for (int i = 0; i < before.size(); i++) {
            if (i >= after.size() || !after.get(i).equals(before.get(i))) {
                throw new AssertionError("changed: " + (i < after.size() ? after.get(i) : "") + ", was " + before.get(i));
            }
        }
    }

    /** What each call answers is the same behind each of the calls, as none of them changes anything. */
    static void answersTheSameBehindEach(Setting setting, Call... calls) {
        for (int second = 0; second < calls.length; second++) {
            long alone = calls[second].on(setting.make());
            for (int first = 0; first < calls.length; first++) {
                OtherwiseCourt x = setting.make();
                calls[first].on(x);
                long got = calls[second].on(x);
                if (got != alone) {
                    throw new AssertionError("call " + second + " behind call " + first + " answered " + got
                        + ", alone " + alone);
                }
            }
        }
    }

    /** What an object answers that can be looked at without changing it. */
    static List<String> answers(OtherwiseCourt x) {
        List<String> seen = new ArrayList<>();
        look(x, seen);
        return seen;
    }

    /** All that an object answers; what can't be looked at without changing it comes last. */
    static List<String> all(OtherwiseCourt x) {
        List<String> seen = new ArrayList<>();
        look(x, seen);
        seen.add("court() " + x.court());
        look(x, seen);
        seen.add("undo() " + x.undo());
        look(x, seen);
        return seen;
    }

    private static void look(OtherwiseCourt x, List<String> seen) {
        int[] many = new int[7];
        for (int what = 0; what <= 6; what++) {
            many[what] = x.count(what);
            seen.add("count(" + what + ") " + many[what]);
        }
        seen.add("told(0) " + x.told(0));
        seen.add("told(1) " + x.told(1));
        for (int s = 0; s < many[0]; s++) {
            seen.add("of(" + s + ", 0) " + x.of(s, 0));
            seen.add("of(" + s + ", 1) " + x.of(s, 1));
        }
        for (int j = 0; j < many[1]; j++) {
            lookAtJudge(x, seen, j);
        }
        for (int k = 0; k < many[3]; k++) {
            seen.add("entry(" + k + ") " + x.entry(k));
        }
        for (int k = 0; k < many[4] && many[1] > 0; k++) {
            seen.add("odds(0, " + k + ", 0) " + x.odds(0, k, 0));
        }
        seen.add("expects(0, 0) " + x.expects(0, 0));
        for (int i = 0; i < many[6]; i++) {
            seen.add("trace(" + i + ") " + x.trace(i));
        }
    }

    private static void lookAtJudge(OtherwiseCourt x, List<String> seen, int j) {
        for (int what : new int[] {0, 1, 11, 25}) {
            seen.add("at(" + j + ", " + what + ") " + x.at(j, what));
        }
        for (int k = 0; k < 4 && x.at(j, 0) == TOLD; k++) {
            int was = x.row(j, k, 0);
            x.row(j, k, was);
            seen.add("row(" + j + ", " + k + ", ..) " + was);
        }
    }
}
