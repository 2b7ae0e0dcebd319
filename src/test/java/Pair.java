import java.lang.reflect.InvocationTargetException;
import java.lang.reflect.Method;
import java.lang.reflect.Modifier;
import java.util.ArrayList;
import java.util.Arrays;
import java.util.Comparator;
import java.util.List;

/** A new object and a new model that have the same calls, 512 at most. */
final class Pair {
    private static final int CALLS = 512;

    private final Tally tally;
    private final String name;
    private final WakeOrder x = new WakeOrder();
    private final Model y = new Model();
    private final StringBuilder told = new StringBuilder();
    private int count;
    private boolean apart;

    Pair(Tally tally, String name) {
        this.tally = tally;
        this.name = name;
    }

    /** All that may be called, by name. */
    static List<Method> calls() {
        List<Method> all = new ArrayList<>();
        for (Method m : WakeOrder.class.getDeclaredMethods()) {
            if (Modifier.isPublic(m.getModifiers())) {
                all.add(m);
            }
        }
        all.sort(Comparator.comparing(Method::getName));
        return all;
    }

    static Method named(String call) {
        for (Method m : calls()) {
            if (m.getName().equals(call)) {
                return m;
            }
        }
        throw new IllegalStateException(call);
    }

    /** Whether another call is of use: no more than 512, and none behind the first that differs. */
    boolean goesOn() {
        return !apart && count < CALLS;
    }

    int left() {
        return apart ? 0 : CALLS - count;
    }

    void call(String call, Object... args) {
        call(named(call), args);
    }

    void call(Method m, Object... args) {
        if (!goesOn()) {
            return;
        }
        count++;
        told.append(m.getName()).append(Arrays.toString(args)).append(' ');
        try {
            Method other = Model.class.getDeclaredMethod(m.getName(), m.getParameterTypes());
            int want = (Integer) other.invoke(y, args);
            int got = (Integer) m.invoke(x, args);
            apart = got != want;
            tally.due(apart ? name + ": " + told : "", got, want);
        } catch (InvocationTargetException e) {
            apart = true;
            tally.that(name + ": " + told + "threw " + e.getCause(), false);
        } catch (ReflectiveOperationException e) {
            throw new IllegalStateException(e);
        }
    }

    void load(String text) {
        for (int i = 0; i < text.length(); i++) {
            call("feed", (int) text.charAt(i));
        }
        call("city");
        call("fault");
    }
}
