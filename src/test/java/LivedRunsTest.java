import java.util.ArrayList;
import java.util.Arrays;
import java.util.List;
import java.util.function.Consumer;

/**
 * Random cities without a model of them: mornings are lived through minute by minute by what the object tells of its
 * city, and what is tried is held against what comes of it when it is done in other objects of the same city.
 */
public final class LivedRunsTest {
    private static final int RUNS = 2000;
    private static final int NONE = -1;

    private final Tally tally;
    private final String name;
    private final RandomTexts random;
    private final String text;
    private final List<Consumer<WakeOrder>> changes = new ArrayList<>();
    private final WakeOrder x;
    private final List<Integer> row;
    private final int minutes;
    private final int persons;
    private final int jobs;

    private LivedRunsTest(Tally tally, int run) {
        this.tally = tally;
        random = new RandomTexts(run * 15485863L + 3);
        String city = random.city().toString();
        text = city.length() > 220 ? "" : city;
        for (int k = random.below(6); k > 0; k--) {
            changes.add(change());
        }
        name = "lived run " + run + ", " + text + ": ";
        x = made();
        row = orderOf(x);
        minutes = x.told(0);
        persons = x.told(1);
        jobs = x.told(2);
    }

    public static void main(String[] args) {
        Tally tally = new Tally();
        int runs = args.length > 0 ? Integer.parseInt(args[0]) : RUNS;
        for (int run = 0; run < runs; run++) {
            new LivedRunsTest(tally, run).runOnce();
        }
        if (!tally.close("lived")) {
            System.exit(1);
        }
    }

    private void runOnce() {
        live();
        breadIsWhatShutEyesBring();
        harmIsWhatRanksBring();
        freeIsWhatDismissalsBring();
        // all orders are too many to be done each time
        if (row.size() < 5 || random.oneIn(15)) {
            List<WakeOrder> all = allOrders();
            raiseIsWhatOrdersBring(all);
            ordersAreThoseThatFit(all);
        }
    }

    private void due(String call, int got, int want) {
        tally.due(name + call, got, want);
    }

    private Consumer<WakeOrder> change() {
        int p = random.below(6);
        int number = random.below(200);
        switch (random.below(5)) {
            case 0: return y -> y.rank(p, number % 6);
            case 1: return y -> y.hand(number % 8, p);
            case 2: return y -> y.wake(p, number);
            case 3: return y -> y.dismiss(p);
            default: return y -> y.eyes(p, number % 4 > 0);
        }
    }

    private WakeOrder made() {
        WakeOrder y = Edges.city(text);
        for (Consumer<WakeOrder> change : changes) {
            change.accept(y);
        }
        return y;
    }

    private static List<Integer> orderOf(WakeOrder y) {
        List<Integer> all = new ArrayList<>();
        for (int i = 0; y.order(i) != NONE; i++) {
            all.add(y.order(i));
        }
        return all;
    }

    // ---- lived through

    private void live() {
        int[] up = new int[persons];
        int[] done = new int[jobs];
        Arrays.fill(up, Integer.MAX_VALUE);
        Arrays.fill(done, Integer.MAX_VALUE);
        int[][] person = new int[persons][];
        int[][] job = new int[jobs][];
        for (int p = 0; p < persons; p++) {
            person[p] = new int[] {x.person(p, 0), x.person(p, 2), x.told(6) >> p & 1};
        }
        for (int j = 0; j < jobs; j++) {
            job[j] = new int[] {x.job(j, 0), x.job(j, 1), x.job(j, 2)};
        }
        for (int minute = 0; minute < minutes; minute++) {
            liveMinute(minute, person, job, up, done);
        }
        for (int p = 0; p < persons; p++) {
            due("person(" + p + ", 3)", x.person(p, 3), up[p] < minutes ? up[p] : NONE);
        }
        for (int j = 0; j < jobs; j++) {
            due("job(" + j + ", 3)", x.job(j, 3), done[j] < minutes ? done[j] : NONE);
        }
    }

    /** Jobs take a minute at least: none is done within the minute, so each has to be looked at but once. */
    private void liveMinute(int minute, int[][] person, int[][] job, int[] up, int[] done) {
        boolean lawful = true;
        for (int p : row) {
            boolean shut = person[p][2] == 1;
            boolean wakes = person[p][0] <= minute && (person[p][1] == NONE || done[person[p][1]] <= minute);
            if (up[p] > minute && wakes && (shut || lawful)) {
                up[p] = minute;
            }
            lawful &= shut || up[p] <= minute;
        }
        for (int j = 0; j < jobs; j++) {
            int p = job[j][0];
            boolean begins = done[j] == Integer.MAX_VALUE && up[p] <= minute && (job[j][2] == NONE || done[job[j][2]] <= minute);
            for (int lesser = 0; lesser < j; lesser++) {
                begins &= job[lesser][0] != p || done[lesser] <= minute;
            }
            if (begins) {
                done[j] = minute + job[j][1];
            }
        }
    }

    // ---- done instead of tried

    private int orM(int minute) {
        return minute == NONE ? minutes : minute;
    }

    private void breadIsWhatShutEyesBring() {
        WakeOrder y = made();
        for (int p = 0; p < persons; p++) {
            y.eyes(p, true);
        }
        for (int j = 0; j < jobs; j++) {
            due("bread(" + j + ")", x.bread(j), orM(x.job(j, 3)) - orM(y.job(j, 3)));
        }
    }

    private void harmIsWhatRanksBring() {
        for (int p : row) {
            int place = NONE;
            int least = Integer.MAX_VALUE;
            for (int k = row.size() - 1; k >= 0; k--) {
                WakeOrder y = made();
                y.rank(p, k);
                int sum = 0;
                for (int other : row) {
                    sum += other == p ? 0 : orM(y.person(other, 3));
                }
                place = sum <= least ? k : place;
                least = Math.min(least, sum);
            }
            due("leastHarm(" + p + ", 0)", x.leastHarm(p, 0), place);
            due("leastHarm(" + p + ", 1)", x.leastHarm(p, 1), least);
        }
    }

    private void freeIsWhatDismissalsBring() {
        int best = NONE;
        for (int set = 0; set < 1 << persons; set++) {
            WakeOrder y = made();
            boolean allThere = true;
            for (int p = 0; p < persons; p++) {
                allThere &= (set >> p & 1) == 0 || y.dismiss(p) >= 0;
            }
            boolean fewer = best == NONE || Integer.bitCount(set) < Integer.bitCount(best);
            best = allThere && fewer && y.told(7) == 0 ? set : best;
        }
        due("free(1)", x.free(1), best);
        due("free(0)", x.free(0), Integer.bitCount(best));
    }

    /** An object in each order, by lesser persons first. */
    private List<WakeOrder> allOrders() {
        List<List<Integer>> rows = new ArrayList<>();
        rows.add(new ArrayList<>());
        for (int place = 0; place < row.size(); place++) {
            List<List<Integer>> longer = new ArrayList<>();
            for (List<Integer> head : rows) {
                for (int p = 0; p < persons; p++) {
                    if (row.contains(p) && !head.contains(p)) {
                        List<Integer> next = new ArrayList<>(head);
                        next.add(p);
                        longer.add(next);
                    }
                }
            }
            rows = longer;
        }
        List<WakeOrder> all = new ArrayList<>();
        for (List<Integer> each : rows) {
            WakeOrder y = made();
            for (int place = 0; place < each.size(); place++) {
                y.rank(each.get(place), place);
            }
            all.add(y);
        }
        return all;
    }

    private void raiseIsWhatOrdersBring(List<WakeOrder> all) {
        int set = random.below(1 << jobs);
        int t = random.below(Math.max(1, minutes));
        int fewest = NONE;
        List<Integer> best = List.of();
        for (WakeOrder y : all) {
            boolean does = true;
            for (int j = 0; j < jobs; j++) {
                does &= (set >> j & 1) == 0 || y.job(j, 3) != NONE && y.job(j, 3) <= t;
            }
            int raised = 0;
            for (int p : row) {
                raised += y.person(p, 1) < row.indexOf(p) ? 1 : 0;
            }
            if (does && (fewest == NONE || raised < fewest)) {
                fewest = raised;
                best = orderOf(y);
            }
        }
        due("raise(" + set + ", " + t + ", -1)", x.raise(set, t, NONE), fewest);
        for (int i = 0; i <= row.size(); i++) {
            due("raise(" + set + ", " + t + ", " + i + ")", x.raise(set, t, i), i < best.size() ? best.get(i) : NONE);
        }
    }

    private static boolean isEarlier(WakeOrder y, int p, int q) {
        return y.person(p, 3) != NONE && (y.person(q, 3) == NONE || y.person(p, 3) < y.person(q, 3));
    }

    private void ordersAreThoseThatFit(List<WakeOrder> all) {
        List<WakeOrder> fit = new ArrayList<>(all);
        for (int seen = 0; seen < 3; seen++) {
            due("orders(-1), " + seen + " seen", x.orders(NONE), fit.size());
            for (int p = 0; p < persons; p++) {
                int who = p;
                long places = fit.stream().map(y -> y.person(who, 1)).distinct().count();
                due("orders(" + p + "), " + seen + " seen", x.orders(p), places == 1 ? fit.get(0).person(p, 1) : NONE);
            }
            due("lookNext(), " + seen + " seen", x.lookNext(), bestPair(fit));
            int p = random.below(6);
            int q = random.below(6);
            if (x.see(p, q) > 0) {
                fit.removeIf(y -> !isEarlier(y, p, q));
            }
        }
    }

    private int bestPair(List<WakeOrder> fit) {
        int best = NONE;
        long least = fit.size();
        for (int p = 0; p < persons; p++) {
            for (int q = p + 1; q < persons; q++) {
                int first = p;
                int second = q;
                long part = fit.stream().filter(y -> isEarlier(y, first, second)).count();
                long greatest = Math.max(part, fit.size() - part);
                best = greatest < least ? 10 * p + q : best;
                least = Math.min(least, greatest);
            }
        }
        return best;
    }
}
