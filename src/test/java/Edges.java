import java.lang.reflect.InvocationTargetException;
import java.lang.reflect.Method;
import java.util.ArrayList;
import java.util.Comparator;
import java.util.List;

/** Runs all methods of a class that bear the document's words; each makes its own objects. */
abstract class Edges {
    static final int NONE = -1, UNKNOWN = -1000000001, OUTSIDE = -1000000002, NOT = -1000000003, FULL = -1000000004;
    static final int LEAST = Integer.MIN_VALUE, GREATEST = Integer.MAX_VALUE;

    /** By law all are up at 50 and jobs are done at 60, 65, 105, 114; with all eyes shut at 20, 25, 70, 79. */
    static final String LATE_KING = "c200;p50;p10;p20;p30;j1 10 9;j2 5 0;j3 40 1;j3 9 9;";
    /** 1 waits for job 1 of 2, who may not be up before 1: 1 and 2 are stuck, jobs 1 and 2 are never done. */
    static final String RING = "c100;p10;p20;p5;j0 5 9;j2 7 0;j2 3 9;w1 1;";
    /** As many persons and jobs as there may be: p is up at p, its first job done a minute later. */
    static final String FULL_CITY = "c999;p0;p1;p2;p3;p4;p5;j0 1 9;j1 1 9;j2 1 9;j3 1 9;j4 1 9;j5 1 9;j0 1 9;j1 1 9;";

    private final Tally tally = new Tally();
    private Method test;

    static WakeOrder feed(WakeOrder x, String text) {
        for (int i = 0; i < text.length(); i++) {
            x.feed(text.charAt(i));
        }
        return x;
    }

    static int load(WakeOrder x, String text) {
        return feed(x, text).city();
    }

    static WakeOrder city(String text) {
        WakeOrder x = new WakeOrder();
        load(x, text);
        return x;
    }

    static WakeOrder allDismissed(String text) {
        WakeOrder x = city(text);
        for (int p = 0; p < 6; p++) {
            x.dismiss(p);
        }
        return x;
    }

    final void due(long got, long want) {
        if (got == want) {
            tally.due("", got, want);
            return;
        }
        int line = StackWalker.getInstance().walk(frames -> frames
            .filter(f -> f.getMethodName().equals(test.getName())).findFirst().map(f -> f.getLineNumber()).orElse(0));
        tally.due(getClass().getName() + "." + test.getName() + ", line " + line, got, want);
    }

    final void order(WakeOrder x, int... persons) {
        for (int i = 0; i < persons.length; i++) {
            due(x.order(i), persons[i]);
        }
        due(x.order(persons.length), NONE);
    }

    final void ups(WakeOrder x, int... minutes) {
        for (int p = 0; p < minutes.length; p++) {
            due(x.person(p, 3), minutes[p]);
        }
    }

    final void dones(WakeOrder x, int... minutes) {
        for (int j = 0; j < minutes.length; j++) {
            due(x.job(j, 3), minutes[j]);
        }
    }

    final void told(WakeOrder x, int... answers) {
        for (int what = 0; what < answers.length; what++) {
            due(x.told(what), answers[what]);
        }
    }

    static List<Method> testsOf(Class<?> type) {
        List<Method> tests = new ArrayList<>();
        for (Method m : type.getDeclaredMethods()) {
            if (m.isAnnotationPresent(Says.class)) {
                tests.add(m);
            }
        }
        tests.sort(Comparator.comparing(Method::getName));
        return tests;
    }

    /** Runs all; ends with exit code 1 if one fails. */
    final void runAll() throws IllegalAccessException {
        for (Method m : testsOf(getClass())) {
            test = m;
            try {
                m.invoke(this);
            } catch (InvocationTargetException e) {
                tally.that(getClass().getName() + "." + m.getName() + " threw " + e.getCause(), false);
            }
        }
        if (!tally.close(getClass().getName())) {
            System.exit(1);
        }
    }
}
