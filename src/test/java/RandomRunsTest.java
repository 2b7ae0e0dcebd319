import java.lang.reflect.Method;
import java.util.List;

/** Random runs of all calls, held against the model. */
public final class RandomRunsTest {
    private static final int RUNS = 400;
    private static final int NONE_MINUTE = -1;

    private final Tally tally = new Tally();
    private final List<Method> calls = Pair.calls();
    private RandomTexts random = new RandomTexts(0);

    private int below(int n) {
        return random.below(n);
    }

    private boolean oneIn(int n) {
        return random.oneIn(n);
    }

    public static void main(String[] args) {
        RandomRunsTest test = new RandomRunsTest();
        int runs = args.length > 0 ? Integer.parseInt(args[0]) : RUNS;
        for (int run = 0; run < runs; run++) {
            test.random = new RandomTexts(run * 7919L + 17);
            test.runOnce(run);
        }
        for (int text = 0; text < 20 * runs; text++) {
            test.random = new RandomTexts(text * 104729L + 5);
            test.readOnce(text);
        }
        if (!test.tally.close("random")) {
            System.exit(1);
        }
    }

    private void runOnce(int run) {
        Pair pair = new Pair(tally, "run " + run);
        boolean heavy = run % 8 == 0;
        if (!oneIn(6)) {
            pair.load(random.text());
        }
        while (pair.goesOn()) {
            if (oneIn(150)) {
                pair.load(random.text());
                continue;
            }
            Method m = calls.get(below(calls.size()));
            if (m.getName().equals("city") && !oneIn(10) || isHeavy(m) && !heavy && !oneIn(4)) {
                continue;
            }
            pair.call(m, arguments(m));
        }
    }

    /** One text with changes, for its fault alone. */
    private void readOnce(int run) {
        StringBuilder text = new StringBuilder(random.text());
        for (int k = below(4); k > 0; k--) {
            random.change(text);
        }
        new Pair(tally, "text " + run).load(text.toString());
    }

    private static boolean isHeavy(Method m) {
        return m.getName().equals("lookNext") || m.getName().equals("raise") || m.getName().equals("orders");
    }

    private Object[] arguments(Method m) {
        Class<?>[] types = m.getParameterTypes();
        Object[] args = new Object[types.length];
        for (int i = 0; i < types.length; i++) {
            args[i] = types[i] == boolean.class ? (Object) oneIn(2) : (Object) number(m.getName(), i);
        }
        return args;
    }

    private int number(String name, int i) {
        if (oneIn(60)) {
            int[] odd = {-1, -2, Integer.MIN_VALUE, Integer.MAX_VALUE, 1000, 999, 64, 256, 8, 6, 7, 32, 31};
            return odd[below(odd.length)];
        }
        switch (name) {
            case "feed": return below(257);
            case "told": return below(13);
            case "person": return below(i == 0 ? 6 : 6);
            case "job": return below(i == 0 ? 8 : 5);
            case "order": return below(8) - 1;
            case "hand": return below(i == 0 ? 8 : 6);
            case "wake": return i == 0 ? below(6) : oneIn(4) ? below(1000) : below(120);
            case "drift": return below(42);
            case "raise": return i == 0 ? below(1 << below(9)) : i == 1 ? below(oneIn(2) ? 1000 : 300) : below(9) - 2;
            case "leastHarm": return i == 0 ? below(6) : below(2);
            case "free": return below(2);
            case "sleeps": return i == 0 ? below(62) : below(102);
            case "orders": return below(7) - 1;
            case "write": return i == 0 ? below(8) : oneIn(3) ? NONE_MINUTE : below(200);
            case "seed": return below(Integer.MAX_VALUE);
            case "keep": case "goBack": return below(2);
            default: return below(6);
        }
    }
}
