import java.lang.reflect.Method;
import java.util.ArrayList;
import java.util.List;

/** Every call with every number that stands at an edge, in some states, held against the model; none may throw. */
public final class SweepTest {
    private static final int[] EDGES = {Integer.MIN_VALUE, Integer.MIN_VALUE + 1, -1000000004, -1000000001, -256, -2, -1,
        0, 1, 2, 3, 4, 5, 6, 7, 8, 9, 10, 11, 12, 15, 16, 31, 32, 33, 39, 40, 41, 59, 60, 61, 63, 64, 99, 100, 101, 127,
        128, 255, 256, 512, 998, 999, 1000, 65536, 1 << 30, Integer.MAX_VALUE - 1, Integer.MAX_VALUE};
    private static final String RING = "c100;p10;p20;p5;j0 5 9;j2 7 0;j2 3 9;w1 1;";
    private static final String TWO = "c999;p10;p0;j0 99 9;j1 1 9;j1 1 0;j0 1 9;j0 1 9;j0 1 9;j0 1 9;j0 1 6;";
    private static final String SIX = "c10;p9;p1;p2;p3;p4;p5;";

    private final Tally tally = new Tally();

    public static void main(String[] args) {
        SweepTest t = new SweepTest();
        for (Method m : Pair.calls()) {
            List<Object[]> all = new ArrayList<>();
            combine(m.getParameterTypes(), new Object[m.getParameterCount()], 0, all);
            for (int state = 0; state < 6; state++) {
                // of all orders of six are too many for all the numbers of raise()
                if (state != 5 || m.getParameterCount() < 3) {
                    t.sweep(m, all, state);
                }
            }
        }
        if (!t.tally.close("sweep")) {
            System.exit(1);
        }
    }

    private static void combine(Class<?>[] types, Object[] args, int at, List<Object[]> all) {
        if (at == types.length) {
            all.add(args.clone());
            return;
        }
        if (types[at] == boolean.class) {
            for (boolean is : new boolean[] {true, false}) {
                args[at] = is;
                combine(types, args, at + 1, all);
            }
            return;
        }
        for (int number : EDGES) {
            // the third number only picks one of an answer's
            if (at < 2 || number >= -2 && number <= 6 || number == Integer.MIN_VALUE || number == Integer.MAX_VALUE) {
                args[at] = number;
                combine(types, args, at + 1, all);
            }
        }
    }

    private void sweep(Method m, List<Object[]> all, int state) {
        Pair pair = null;
        for (Object[] args : all) {
            if (pair == null || pair.left() < 10) {
                pair = inState(m.getName(), state);
            }
            pair.call(m, args);
            if (m.getParameterCount() > 0) {
                pair.call("told", 11);
            }
        }
    }

    private Pair inState(String name, int state) {
        Pair pair = new Pair(tally, name + " in state " + state);
        switch (state) {
            case 0: break;
            case 1: pair.load("c10;x"); pair.load("c10;"); break;
            case 2: pair.load(RING); break;
            case 3: pair.load(RING); change(pair); break;
            case 4: pair.load(TWO); pair.call("dismiss", 0); break;
            default: pair.load(SIX); break;
        }
        return pair;
    }

    private static void change(Pair pair) {
        pair.call("keep", 1);
        pair.call("eyes", 2, true);
        pair.call("rank", 2, 0);
        pair.call("wake", 0, 100);
        pair.call("hand", 0, 1);
        pair.call("dismiss", 1);
        pair.call("see", 2, 0);
        pair.call("write", 0, -1);
        pair.call("seed", Integer.MAX_VALUE);
    }
}
