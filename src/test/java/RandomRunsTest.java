import java.lang.reflect.Method;
import java.util.List;

/** Random runs of all calls, held against the model. */
public final class RandomRunsTest {
    private static final int RUNS = 400;
    private static final int NONE_MINUTE = -1;

    private final Tally tally = new Tally();
    private final List<Method> calls = Pair.calls();
    private long state;

    private int below(int n) {
        state = state * 6364136223846793005L + 1442695040888963407L;
        return (int) ((state >>> 33) % n);
    }

    private boolean oneIn(int n) {
        return below(n) == 0;
    }

    public static void main(String[] args) {
        RandomRunsTest test = new RandomRunsTest();
        int runs = args.length > 0 ? Integer.parseInt(args[0]) : RUNS;
        for (int run = 0; run < runs; run++) {
            test.state = run * 7919L + 17;
            test.runOnce(run);
        }
        for (int text = 0; text < 20 * runs; text++) {
            test.state = text * 104729L + 5;
            test.readOnce(text);
        }
        if (!test.tally.close("random")) {
            System.exit(1);
        }
    }

    private void runOnce(int run) {
        Pair pair = new Pair(tally, "run " + run);
        boolean heavy = run % 8 == 0;
        if (!oneIn(6)) {
            pair.load(text());
        }
        while (pair.goesOn()) {
            if (oneIn(150)) {
                pair.load(text());
                continue;
            }
            Method m = calls.get(below(calls.size()));
            if (m.getName().equals("city") && !oneIn(10) || isHeavy(m) && !heavy && !oneIn(4)) {
                continue;
            }
            pair.call(m, arguments(m));
        }
    }

    /** One text with changes, for its fault alone. */
    private void readOnce(int run) {
        StringBuilder text = new StringBuilder(text());
        for (int k = below(4); k > 0; k--) {
            change(text);
        }
        new Pair(tally, "text " + run).load(text.toString());
    }

    private static boolean isHeavy(Method m) {
        return m.getName().equals("lookNext") || m.getName().equals("raise") || m.getName().equals("orders");
    }

    private Object[] arguments(Method m) {
        Class<?>[] types = m.getParameterTypes();
        Object[] args = new Object[types.length];
        for (int i = 0; i < types.length; i++) {
            args[i] = types[i] == boolean.class ? (Object) oneIn(2) : (Object) number(m.getName(), i);
        }
        return args;
    }

    private int number(String name, int i) {
        if (oneIn(60)) {
            int[] odd = {-1, -2, Integer.MIN_VALUE, Integer.MAX_VALUE, 1000, 999, 64, 256, 8, 6, 7, 32, 31};
            return odd[below(odd.length)];
        }
        switch (name) {
            case "feed": return below(257);
            case "told": return below(13);
            case "person": return below(i == 0 ? 6 : 6);
            case "job": return below(i == 0 ? 8 : 5);
            case "order": return below(8) - 1;
            case "hand": return below(i == 0 ? 8 : 6);
            case "wake": return i == 0 ? below(6) : oneIn(4) ? below(1000) : below(120);
            case "drift": return below(42);
            case "raise": return i == 0 ? below(1 << below(9)) : i == 1 ? below(oneIn(2) ? 1000 : 300) : below(9) - 2;
            case "leastHarm": return i == 0 ? below(6) : below(2);
            case "free": return below(2);
            case "sleeps": return i == 0 ? below(62) : below(102);
            case "orders": return below(7) - 1;
            case "write": return i == 0 ? below(8) : oneIn(3) ? NONE_MINUTE : below(200);
            case "seed": return below(Integer.MAX_VALUE);
            case "keep": case "goBack": return below(2);
            default: return below(6);
        }
    }

    private String text() {
        StringBuilder s = new StringBuilder();
        int minutes = oneIn(3) ? 10 + below(990) : 200 + below(300);
        s.append('c').append(minutes).append(';');
        int persons = oneIn(3) ? below(7) : 3 + below(4);
        for (int p = 0; p < persons; p++) {
            s.append('p').append(below(oneIn(8) ? 1000 : 100)).append(';');
        }
        int jobs = persons == 0 ? 0 : below(9);
        for (int j = 0; j < jobs; j++) {
            int behind = j == 0 || oneIn(2) ? 9 : below(j);
            s.append('j').append(below(persons)).append(' ').append(1 + below(oneIn(3) ? 99 : 20)).append(' ').append(behind).append(';');
        }
        for (int p = 0; p < persons && jobs > 0; p++) {
            if (oneIn(3)) {
                s.append('w').append(p).append(' ').append(below(jobs)).append(';');
            }
        }
        int changes = oneIn(3) ? 1 + below(3) : 0;
        for (int k = 0; k < changes; k++) {
            change(s);
        }
        return s.length() > 220 ? s.substring(0, 220) : s.toString();
    }

    private void change(StringBuilder s) {
        String letters = "cpjw;0123456789 9 ;x";
        char letter = oneIn(20) ? (char) below(256) : letters.charAt(below(letters.length()));
        int at = below(s.length());
        switch (below(3)) {
            case 0: s.insert(at, letter); break;
            case 1: s.setCharAt(at, letter); break;
            default: if (s.length() > 1) s.deleteCharAt(at);
        }
    }
}
