import java.lang.reflect.InvocationTargetException;
import java.lang.reflect.Method;
import java.lang.reflect.Modifier;
import java.util.ArrayList;
import java.util.Comparator;
import java.util.List;

/** What the tests of boundary cases share: answers that are due, moors made ready, and the running of the tests. */
abstract class Checks {
    static final int BAD = -1, NOT = -2, FULL = -3, STATE = -5, VOID = -2000000000;
    static final int NOTHING = -11, KIND = -12, PLACE = -13, SIZE = -14, NO_HEART = -99;
    static final int LEAST = Integer.MIN_VALUE, MOST = Integer.MAX_VALUE;
    static final int BYTES = 0, SHORTS = 1, INTS = 2, LONGS = 3, BOOLEANS = 4;

    private static String running = "";
    private static int wrong = 0;

    static void due(long got, long want) {
        if (got != want) {
            tell("answered " + got + ", due is " + want);
        }
    }

    static void alike(String got, String want) {
        if (!got.equals(want)) {
            tell("is " + got + ", due is " + want);
        }
    }

    /** The line of the test in which an answer was not as due, since the answers themselves bear no names. */
    private static void tell(String what) {
        wrong++;
        int line = StackWalker.getInstance().walk(frames -> frames
                .filter(frame -> running.endsWith("." + frame.getMethodName()))
                .findFirst().map(StackWalker.StackFrame::getLineNumber).orElse(0));
        System.out.println(running + ", line " + line + ": " + what);
    }

    static int wrong() {
        return wrong;
    }

    /** Runs each test of a class, and answers their names. */
    static List<String> runAll(Class<?> tests) throws IllegalAccessException {
        List<Method> all = new ArrayList<>();
        for (Method m : tests.getDeclaredMethods()) {
            if (m.getName().matches("p\\d\\d_\\w+") && Modifier.isStatic(m.getModifiers())) {
                all.add(m);
            }
        }
        all.sort(Comparator.comparing(Method::getName));
        List<String> names = new ArrayList<>();
        for (Method m : all) {
            running = tests.getName() + "." + m.getName();
            names.add(m.getName());
            try {
                m.invoke(null);
            } catch (InvocationTargetException e) {
                tell("threw " + e.getCause());
            }
        }
        return names;
    }

    static FingerSaysFar walkersOf(int... hearts) {
        FingerSaysFar x = new FingerSaysFar();
        for (int heart : hearts) {
            x.walker(heart);
        }
        return x;
    }

    static void posts(FingerSaysFar x, int... fts) {
        for (int ft : fts) {
            x.post(ft);
        }
    }

    static void feedText(FingerSaysFar x, String text) {
        for (int i = 0; i < text.length(); i++) {
            x.feed(text.charAt(i));
        }
    }

    static int law(FingerSaysFar x, String text) {
        feedText(x, text);
        return x.law();
    }

    static void row(FingerSaysFar x, int shelf, int sort, long... values) {
        x.row(shelf, sort, values.length);
        for (int i = 0; i < values.length; i++) {
            x.put(shelf, i, values[i]);
        }
    }

    static void heights(FingerSaysFar x, int height, int... cells) {
        for (int cell : cells) {
            x.mend(cell, 0, height);
        }
    }

    static String times(String part, int n) {
        return part.repeat(n);
    }
}
