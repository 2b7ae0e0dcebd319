import java.util.ArrayDeque;
import java.util.ArrayList;
import java.util.Collections;
import java.util.Deque;
import java.util.List;

/**
 * The document once more, by other means: minutes grow from 0 till all holds, orders are lists made ahead,
 * the text is cut into tokens first. Slow; random runs are held against it.
 */
final class Model {
    static final int NONE = -1, UNKNOWN = -1000000001, OUTSIDE = -1000000002, NOT = -1000000003, FULL = -1000000004;

    private record Token(int at, int figures, int value, char sign) { }

    private record Job(int p, int takes, int behind) { }

    private static final class Told {
        int minutes;
        List<Integer> wakes = new ArrayList<>();
        List<Job> jobs = new ArrayList<>();
        int[] waits = {NONE, NONE, NONE, NONE, NONE, NONE};
    }

    private static final class Fault extends RuntimeException {
        private static final long serialVersionUID = 1L;
        final int kind;
        final int at;

        Fault(int kind, int at) {
            this.kind = kind;
            this.at = at;
        }
    }

    private static final class Snapshot {
        List<Integer> order = new ArrayList<>();
        List<Integer> wakes = new ArrayList<>();
        List<Integer> doers = new ArrayList<>();
        boolean[] shut = new boolean[6];
        int mornings;

        Snapshot copy() {
            Snapshot c = new Snapshot();
            c.order.addAll(order);
            c.wakes.addAll(wakes);
            c.doers.addAll(doers);
            c.shut = shut.clone();
            c.mornings = mornings;
            return c;
        }
    }

    private StringBuilder text = new StringBuilder();
    private Told told = new Told();
    private Snapshot now = new Snapshot();
    private final Deque<Snapshot> past = new ArrayDeque<>();
    private final Snapshot[] images = new Snapshot[2];
    private final int[] imageSeeds = new int[2];
    private final List<int[]> seen = new ArrayList<>();
    private final List<int[]> book = new ArrayList<>();
    private int fault = NONE;
    private int seed;

    // ---- the text

    private List<Token> tokens() {
        List<Token> all = new ArrayList<>();
        int i = 0;
        while (i < text.length()) {
            char sign = text.charAt(i);
            int from = i++;
            if (sign == ' ') {
                continue;
            }
            if (sign < '0' || sign > '9') {
                all.add(new Token(from, 0, 0, sign));
                continue;
            }
            while (i < text.length() && text.charAt(i) >= '0' && text.charAt(i) <= '9') {
                i++;
            }
            int value = i - from > 3 ? 0 : Integer.parseInt(text.substring(from, i));
            all.add(new Token(from, i - from, value, '0'));
        }
        all.add(new Token(text.length(), 0, 0, (char) 0xFFFF));
        return all;
    }

    private static int value(Token t, List<Integer> allowed) {
        if (t.figures == 0) {
            throw new Fault(1, t.at);
        }
        if (t.figures > 3 || !allowed.contains(t.value)) {
            throw new Fault(2, t.at);
        }
        return t.value;
    }

    private static List<Integer> from(int low, int high) {
        List<Integer> all = new ArrayList<>();
        for (int i = low; i <= high; i++) {
            all.add(i);
        }
        return all;
    }

    private Told parse() {
        List<Token> all = tokens();
        Told draft = new Told();
        int k = 0;
        while (k < all.size() - 1) {
            Token word = all.get(k++);
            boolean first = draft.minutes == 0;
            if (word.figures > 0 || "cpjw".indexOf(word.sign) < 0 || first != (word.sign == 'c') && first) {
                throw new Fault(1, word.at);
            }
            if (word.sign == 'c') {
                if (!first) {
                    throw new Fault(3, word.at);
                }
                draft.minutes = value(all.get(k++), from(10, 999));
            } else if (word.sign == 'p') {
                if (draft.wakes.size() == 6) {
                    throw new Fault(3, word.at);
                }
                draft.wakes.add(value(all.get(k++), from(0, 999)));
            } else if (word.sign == 'j') {
                if (draft.jobs.size() == 8) {
                    throw new Fault(3, word.at);
                }
                int p = value(all.get(k++), from(0, draft.wakes.size() - 1));
                int takes = value(all.get(k++), from(1, 99));
                List<Integer> ahead = from(0, draft.jobs.size() - 1);
                ahead.add(9);
                int behind = value(all.get(k++), ahead);
                draft.jobs.add(new Job(p, takes, behind == 9 ? NONE : behind));
            } else {
                Token at = all.get(k++);
                int p = value(at, from(0, draft.wakes.size() - 1));
                if (draft.waits[p] != NONE) {
                    throw new Fault(4, at.at);
                }
                draft.waits[p] = value(all.get(k++), from(0, draft.jobs.size() - 1));
            }
            Token end = all.get(k++);
            if (end.sign != ';') {
                throw new Fault(1, end.at);
            }
        }
        return draft;
    }

    int feed(int letter) {
        if (letter < 0 || letter > 255) {
            return OUTSIDE;
        }
        if (text.length() == 220) {
            return FULL;
        }
        text.append((char) letter);
        return text.length();
    }

    int city() {
        Told draft;
        fault = NONE;
        try {
            draft = parse();
        } catch (Fault f) {
            fault = f.at;
            return -10 - f.kind;
        } finally {
            text = new StringBuilder();
        }
        told = draft;
        now = new Snapshot();
        now.order.addAll(from(0, persons() - 1));
        now.wakes.addAll(draft.wakes);
        for (Job j : draft.jobs) {
            now.doers.add(j.p);
        }
        past.clear();
        images[0] = null;
        images[1] = null;
        seen.clear();
        book.clear();
        return persons();
    }

    int fault() {
        return fault;
    }

    // ---- when

    private int persons() {
        return told.wakes.size();
    }

    private int jobs() {
        return told.jobs.size();
    }

    /** Minutes of all up, then of all done; M stands for never. */
    private int[] minutes(List<Integer> order, boolean[] shut) {
        int never = told.minutes;
        int[] t = new int[persons() + jobs()];
        boolean grown = true;
        while (grown) {
            int[] next = new int[t.length];
            for (int p = 0; p < persons(); p++) {
                next[p] = Math.min(never, order.contains(p) ? upAt(p, order, shut, t) : never);
            }
            for (int j = 0; j < jobs(); j++) {
                next[persons() + j] = Math.min(never, doneAt(j, order, t));
            }
            grown = !java.util.Arrays.equals(t, next);
            t = next;
        }
        return t;
    }

    private int upAt(int p, List<Integer> order, boolean[] shut, int[] t) {
        int at = now.wakes.get(p);
        if (told.waits[p] != NONE) {
            at = Math.max(at, t[persons() + told.waits[p]]);
        }
        if (!shut[p]) {
            for (int above : order.subList(0, order.indexOf(p))) {
                at = Math.max(at, shut[above] ? 0 : t[above]);
            }
        }
        return at;
    }

    private int doneAt(int j, List<Integer> order, int[] t) {
        int p = now.doers.get(j);
        if (!order.contains(p)) {
            return told.minutes;
        }
        int from = t[p];
        for (int k = 0; k < j; k++) {
            if (now.doers.get(k) == p || told.jobs.get(j).behind == k) {
                from = Math.max(from, t[persons() + k]);
            }
        }
        return from + told.jobs.get(j).takes;
    }

    private int orNone(int minute) {
        return minute >= told.minutes ? NONE : minute;
    }

    private int upNow(int p) {
        return orNone(minutes(now.order, now.shut)[p]);
    }

    private int doneNow(int j) {
        return orNone(minutes(now.order, now.shut)[persons() + j]);
    }

    private int stuck(List<Integer> order) {
        int set = 0;
        int[] t = minutes(order, now.shut);
        for (int p : order) {
            set |= t[p] >= told.minutes ? 1 << p : 0;
        }
        return set;
    }

    int told(int what) {
        if (what < 0 || what > 11) {
            return OUTSIDE;
        }
        int dismissed = 0, shut = 0, undone = 0;
        for (int p = 0; p < persons(); p++) {
            dismissed |= now.order.contains(p) ? 0 : 1 << p;
            shut |= now.shut[p] ? 1 << p : 0;
        }
        for (int j = 0; j < jobs(); j++) {
            undone |= doneNow(j) == NONE ? 1 << j : 0;
        }
        int[] all = {told.minutes, persons(), jobs(), text.length(), now.mornings, dismissed, shut, stuck(now.order),
            undone, seen.size(), book.size(), past.size()};
        return all[what];
    }

    int person(int p, int what) {
        if (p < 0 || p >= persons()) {
            return UNKNOWN;
        }
        if (what < 0 || what > 4) {
            return OUTSIDE;
        }
        return new int[] {now.wakes.get(p), now.order.indexOf(p), told.waits[p], upNow(p),
            Collections.frequency(now.doers, p)}[what];
    }

    int job(int j, int what) {
        if (j < 0 || j >= jobs()) {
            return UNKNOWN;
        }
        if (what < 0 || what > 3) {
            return OUTSIDE;
        }
        return new int[] {now.doers.get(j), told.jobs.get(j).takes, told.jobs.get(j).behind, doneNow(j)}[what];
    }

    int order(int i) {
        return i >= 0 && i < now.order.size() ? now.order.get(i) : NONE;
    }

    // ---- what is done

    private void remember() {
        past.addLast(now.copy());
        if (past.size() > 20) {
            past.removeFirst();
        }
    }

    int rank(int p, int place) {
        if (p < 0 || p >= persons()) {
            return UNKNOWN;
        }
        if (place < 0 || place >= now.order.size()) {
            return OUTSIDE;
        }
        if (!now.order.contains(p)) {
            return NOT;
        }
        remember();
        int had = now.order.indexOf(p);
        now.order.remove((Integer) p);
        now.order.add(place, p);
        return had;
    }

    int eyes(int p, boolean is) {
        if (p < 0 || p >= persons()) {
            return UNKNOWN;
        }
        remember();
        boolean had = now.shut[p];
        now.shut[p] = is;
        return had ? 1 : 0;
    }

    int hand(int j, int p) {
        if (j < 0 || j >= jobs() || p < 0 || p >= persons()) {
            return UNKNOWN;
        }
        remember();
        return now.doers.set(j, p);
    }

    int dismiss(int p) {
        if (p < 0 || p >= persons()) {
            return UNKNOWN;
        }
        if (!now.order.contains(p)) {
            return NOT;
        }
        remember();
        now.order.remove((Integer) p);
        return now.order.size();
    }

    int wake(int p, int w) {
        if (p < 0 || p >= persons()) {
            return UNKNOWN;
        }
        if (w < 0 || w > 999) {
            return OUTSIDE;
        }
        remember();
        return now.wakes.set(p, w);
    }

    int drift(int n) {
        if (n < 1 || n > 40) {
            return OUTSIDE;
        }
        if (told.minutes == 0) {
            return NOT;
        }
        if (now.mornings > 9000) {
            return FULL;
        }
        remember();
        for (int m = 0; m < n; m++) {
            for (int p = 0; p < persons(); p++) {
                seed = java.math.BigInteger.valueOf(seed).multiply(java.math.BigInteger.valueOf(1103515245))
                    .add(java.math.BigInteger.valueOf(12345)).mod(java.math.BigInteger.ONE.shiftLeft(31)).intValueExact();
                now.wakes.set(p, seed / 65536 % told.minutes);
            }
            now.mornings++;
        }
        return now.mornings;
    }

    int undo() {
        if (past.isEmpty()) {
            return NOT;
        }
        now = past.removeLast();
        return past.size();
    }

    // ---- tried

    private List<List<Integer>> allOrders() {
        List<List<Integer>> all = new ArrayList<>();
        List<Integer> members = new ArrayList<>(now.order);
        Collections.sort(members);
        permute(new ArrayList<>(), members, all);
        return all;
    }

    private static void permute(List<Integer> head, List<Integer> rest, List<List<Integer>> all) {
        if (rest.isEmpty()) {
            all.add(head);
        }
        for (Integer p : rest) {
            List<Integer> longer = new ArrayList<>(head);
            longer.add(p);
            List<Integer> others = new ArrayList<>(rest);
            others.remove(p);
            permute(longer, others, all);
        }
    }

    int raise(int set, int t, int i) {
        if (set < 0 || set >= 1 << jobs()) {
            return UNKNOWN;
        }
        if (t < 0 || t > 999) {
            return OUTSIDE;
        }
        List<Integer> best = null;
        int least = 100;
        for (List<Integer> order : allOrders()) {
            int[] m = minutes(order, now.shut);
            boolean does = true;
            for (int j = 0; j < jobs(); j++) {
                int done = m[persons() + j];
                does &= (set & 1 << j) == 0 || done < told.minutes && done <= t;
            }
            int raised = 0;
            for (int p : order) {
                raised += order.indexOf(p) < now.order.indexOf(p) ? 1 : 0;
            }
            if (does && raised < least) {
                least = raised;
                best = order;
            }
        }
        if (best == null) {
            return NONE;
        }
        return i == NONE ? least : i >= 0 && i < best.size() ? best.get(i) : NONE;
    }

    int leastHarm(int p, int what) {
        if (p < 0 || p >= persons()) {
            return UNKNOWN;
        }
        if (what < 0 || what > 1) {
            return OUTSIDE;
        }
        int[] best = {NONE, NONE};
        for (int place = 0; now.order.contains(p) && place < now.order.size(); place++) {
            List<Integer> order = new ArrayList<>(now.order);
            order.remove((Integer) p);
            order.add(place, p);
            int[] m = minutes(order, now.shut);
            int sum = 0;
            for (int other : order) {
                sum += other == p ? 0 : m[other];
            }
            if (place == 0 || sum < best[1]) {
                best = new int[] {place, sum};
            }
        }
        return best[what];
    }

    int bread(int j) {
        if (j < 0 || j >= jobs()) {
            return UNKNOWN;
        }
        boolean[] all = {true, true, true, true, true, true};
        return minutes(now.order, now.shut)[persons() + j] - minutes(now.order, all)[persons() + j];
    }

    int free(int what) {
        if (what < 0 || what > 1) {
            return OUTSIDE;
        }
        for (int many = 0; many <= 6; many++) {
            for (int set = 0; set < 64; set++) {
                List<Integer> left = new ArrayList<>(now.order);
                for (int p = 0; p < 6; p++) {
                    if ((set & 1 << p) != 0) {
                        left.remove((Integer) p);
                    }
                }
                if (Integer.bitCount(set) == many && left.size() == now.order.size() - many && stuck(left) == 0) {
                    return what == 0 ? many : set;
                }
            }
        }
        throw new IllegalStateException();
    }

    int sleeps(int n, int q) {
        if (n < 0 || n > 60 || q < 0 || q > 100) {
            return OUTSIDE;
        }
        java.math.BigInteger odds = java.math.BigInteger.valueOf(1000000000);
        for (int i = 0; i < n; i++) {
            odds = odds.multiply(java.math.BigInteger.valueOf(100 - q)).divide(java.math.BigInteger.valueOf(100));
        }
        return odds.intValueExact();
    }

    // ---- windows

    private boolean earlier(int[] m, int p, int q) {
        return m[p] < m[q];
    }

    private List<List<Integer>> fitting() {
        List<List<Integer>> fit = new ArrayList<>();
        for (List<Integer> order : allOrders()) {
            int[] m = minutes(order, now.shut);
            boolean all = true;
            for (int[] pair : seen) {
                all &= earlier(m, pair[0], pair[1]);
            }
            if (all) {
                fit.add(order);
            }
        }
        return fit;
    }

    int see(int p, int q) {
        if (p < 0 || p >= persons() || q < 0 || q >= persons() || p == q) {
            return UNKNOWN;
        }
        if (seen.size() == 6) {
            return FULL;
        }
        seen.add(new int[] {p, q});
        return seen.size();
    }

    int orders(int p) {
        if (p < -1 || p >= persons()) {
            return UNKNOWN;
        }
        List<List<Integer>> fit = fitting();
        if (p == NONE) {
            return fit.size();
        }
        java.util.Set<Integer> places = new java.util.HashSet<>();
        for (List<Integer> order : fit) {
            places.add(order.indexOf(p));
        }
        return places.size() == 1 ? places.iterator().next() : NONE;
    }

    int lookNext() {
        List<List<Integer>> fit = fitting();
        int best = NONE;
        int least = Integer.MAX_VALUE;
        for (int p = 0; p < persons(); p++) {
            for (int q = p + 1; q < persons(); q++) {
                int yes = 0;
                for (List<Integer> order : fit) {
                    yes += earlier(minutes(order, now.shut), p, q) ? 1 : 0;
                }
                int no = fit.size() - yes;
                if (yes > 0 && no > 0 && Math.max(yes, no) < least) {
                    least = Math.max(yes, no);
                    best = 10 * p + q;
                }
            }
        }
        return best;
    }

    int write(int j, int minute) {
        if (j < 0 || j >= jobs()) {
            return UNKNOWN;
        }
        if (minute < -1 || minute > 999) {
            return OUTSIDE;
        }
        if (book.size() == 15) {
            return FULL;
        }
        book.add(new int[] {j, minute});
        return book.size();
    }

    int tear() {
        int both = seen.size() + book.size();
        seen.clear();
        book.clear();
        return both;
    }

    int judge() {
        for (int[] entry : book) {
            if (doneNow(entry[0]) != entry[1]) {
                return book.indexOf(entry);
            }
        }
        return NONE;
    }

    // ---- draws, images

    int seed(int v) {
        if (v < 0) {
            return OUTSIDE;
        }
        int had = seed;
        seed = v;
        return had;
    }

    int keep(int i) {
        if (i != 0 && i != 1) {
            return UNKNOWN;
        }
        images[i] = now.copy();
        imageSeeds[i] = seed;
        past.clear();
        return 1;
    }

    int goBack(int i) {
        if (i != 0 && i != 1) {
            return UNKNOWN;
        }
        if (images[i] == null) {
            return NOT;
        }
        now = images[i].copy();
        seed = imageSeeds[i];
        past.clear();
        return 1;
    }
}
