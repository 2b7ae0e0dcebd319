import java.util.ArrayList;
import java.util.List;
import java.util.function.Supplier;
import java.util.function.ToIntFunction;

/** Each refusal, and of several the first; neither what is refused nor what is tried changes anything. */
public final class RefusalsEdgesTest extends Edges {
    public static void main(String[] args) throws Exception {
        new RefusalsEdgesTest().runAll();
    }

    /** Four persons, one of them dismissed, four jobs; image 0 is kept, 1 is not; four calls can be undone. */
    private static WakeOrder changed() {
        WakeOrder x = city("c100;p10;p20;p5;p7;j0 5 9;j2 7 0;j2 3 9;j3 4 9;w1 1;");
        x.drift(2);
        x.wake(0, 10);
        x.keep(0);
        x.dismiss(3);
        x.rank(2, 0);
        x.eyes(1, true);
        x.hand(0, 1);
        x.seed(123);
        x.see(0, 1);
        x.write(0, 7);
        x.write(1, NONE);
        return feed(x, "c1x");
    }

    private static WakeOrder fullText() {
        WakeOrder x = city("c100;p10;");
        x.wake(0, 11);
        return feed(x, "c20;" + " ".repeat(216));
    }

    private static WakeOrder fullWindows() {
        WakeOrder x = city("c100;p10;p20;");
        for (int n = 0; n < 6; n++) {
            x.see(0, 1);
        }
        return x;
    }

    private static WakeOrder fullBook() {
        WakeOrder x = city("c100;p10;j0 1 9;");
        for (int n = 0; n < 15; n++) {
            x.write(0, 11);
        }
        return x;
    }

    private static WakeOrder above9000() {
        WakeOrder x = city("c10;p5;");
        for (int n = 0; n < 226; n++) {
            x.drift(40);
        }
        return x;
    }

    private static WakeOrder withoutCity() {
        WakeOrder x = new WakeOrder();
        x.seed(5);
        x.keep(1);
        return feed(x, "c10;p1;");
    }

    private static WakeOrder unchanged() {
        WakeOrder x = city(RING);
        x.wake(0, 11);
        x.keep(1);
        return x;
    }

    /** All that calls tell of it, also of what can be undone, the images, the seed; the object is used up by this. */
    private static List<Integer> allOf(WakeOrder x) {
        List<Integer> all = new ArrayList<>();
        all.add(x.fault());
        stateOf(x, all);
        all.add(x.judge());
        all.add(x.orders(NONE));
        all.add(x.lookNext());
        int many = x.told(11);
        for (int n = 0; n < many && n < 5; n++) {
            all.add(x.undo());
            stateOf(x, all);
        }
        for (int i = 0; i < 2; i++) {
            all.add(x.goBack(i));
            stateOf(x, all);
            all.add(x.seed(99));
        }
        all.add(x.city());
        all.add(x.told(0));
        all.add(x.fault());
        return all;
    }

    private static void stateOf(WakeOrder x, List<Integer> all) {
        for (int what = 3; what <= 11; what++) {
            all.add(x.told(what));
        }
        for (int p = 0; p < x.told(1); p++) {
            all.add(x.order(p));
            all.add(x.person(p, 0));
            all.add(x.person(p, 3));
        }
        for (int j = 0; j < x.told(2); j++) {
            all.add(x.job(j, 0));
            all.add(x.job(j, 3));
        }
    }

    private void refused(Supplier<WakeOrder> ready, ToIntFunction<WakeOrder> call, int answer) {
        WakeOrder x = ready.get();
        due(call.applyAsInt(x), answer);
        List<Integer> had = allOf(ready.get());
        List<Integer> has = allOf(x);
        due(has.size(), had.size());
        for (int k = 0; k < had.size() && k < has.size(); k++) {
            due(has.get(k), had.get(k));
        }
    }

    private void refused(ToIntFunction<WakeOrder> call, int answer) {
        refused(RefusalsEdgesTest::changed, call, answer);
    }

    private void changesNothing(ToIntFunction<WakeOrder> call) {
        refused(call, call.applyAsInt(changed()));
    }

    @Says(of = {1, 2, 3, 4, 5, 6, 7, 8, 9, 10}, words = "They are far below all that is counted: -1000000001 and on.")
    void constants() {
        due(WakeOrder.NONE, -1);
        due(WakeOrder.UNKNOWN, -1000000001);
        due(WakeOrder.OUTSIDE, -1000000002);
        due(WakeOrder.NOT, -1000000003);
        due(WakeOrder.FULL, -1000000004);
    }

    @Says(of = 2, words = "One letter (a number 0 .. 255) comes behind THE TEXT: how many it has. OUTSIDE, FULL (220).")
    void feedRefused() {
        refused(x -> x.feed(-1), OUTSIDE);
        refused(x -> x.feed(256), OUTSIDE);
        refused(RefusalsEdgesTest::fullText, x -> x.feed('x'), FULL);
        refused(RefusalsEdgesTest::fullText, x -> x.feed(-1), OUTSIDE);
        refused(RefusalsEdgesTest::fullText, x -> x.feed(256), OUTSIDE);
    }

    @Says(of = {4, 5, 6, 7, 8}, words = "What is refused changes nothing.")
    void askingChangesNothing() {
        refused(x -> x.told(-1), OUTSIDE);
        refused(x -> x.told(12), OUTSIDE);
        refused(x -> x.person(4, 0), UNKNOWN);
        refused(x -> x.person(0, 5), OUTSIDE);
        refused(x -> x.person(4, 5), UNKNOWN);
        refused(x -> x.person(-1, -1), UNKNOWN);
        refused(x -> x.job(4, 0), UNKNOWN);
        refused(x -> x.job(0, 4), OUTSIDE);
        refused(x -> x.job(4, 4), UNKNOWN);
        refused(x -> x.job(-1, -1), UNKNOWN);
        changesNothing(x -> x.fault());
        changesNothing(x -> x.told(7));
        changesNothing(x -> x.person(0, 3));
        changesNothing(x -> x.job(0, 3));
        changesNothing(x -> x.order(0));
    }

    @Says(of = 9, words = "UNKNOWN, OUTSIDE (below how many there are), NOT: DISMISSED.")
    void rankRefused() {
        refused(x -> x.rank(4, 0), UNKNOWN);
        refused(x -> x.rank(-1, 0), UNKNOWN);
        refused(x -> x.rank(0, 3), OUTSIDE);
        refused(x -> x.rank(0, -1), OUTSIDE);
        refused(x -> x.rank(3, 0), NOT);
        // of several the first
        refused(x -> x.rank(4, 3), UNKNOWN);
        refused(x -> x.rank(3, 3), OUTSIDE);
        refused(x -> x.rank(3, -1), OUTSIDE);
    }

    @Says(of = 10, words = "1 they were SHUT, 0 not. UNKNOWN.")
    void eyesRefused() {
        refused(x -> x.eyes(4, true), UNKNOWN);
        refused(x -> x.eyes(-1, true), UNKNOWN);
        refused(x -> x.eyes(33, false), UNKNOWN);
    }

    @Says(of = 11, words = "A JOB is HANDED to a PERSON: who had it. UNKNOWN.")
    void handRefused() {
        refused(x -> x.hand(4, 0), UNKNOWN);
        refused(x -> x.hand(0, 4), UNKNOWN);
        refused(x -> x.hand(-1, 0), UNKNOWN);
        refused(x -> x.hand(0, -1), UNKNOWN);
    }

    @Says(of = 12, words = "DISMISSED: how many are left. UNKNOWN, NOT: he is.")
    void dismissRefused() {
        refused(x -> x.dismiss(4), UNKNOWN);
        refused(x -> x.dismiss(-1), UNKNOWN);
        refused(x -> x.dismiss(3), NOT);
    }

    @Says(of = 13, words = "W of a PERSON becomes w (0 .. 999): what it was. UNKNOWN, OUTSIDE.")
    void wakeRefused() {
        refused(x -> x.wake(4, 0), UNKNOWN);
        refused(x -> x.wake(0, -1), OUTSIDE);
        refused(x -> x.wake(0, 1000), OUTSIDE);
        refused(x -> x.wake(4, 1000), UNKNOWN);
        refused(x -> x.wake(-1, -1), UNKNOWN);
    }

    @Says(of = 14, words = "OUTSIDE, NOT: no CITY; FULL: MORNINGS are above 9000 as it is called")
    void driftRefused() {
        refused(x -> x.drift(0), OUTSIDE);
        refused(x -> x.drift(41), OUTSIDE);
        refused(RefusalsEdgesTest::withoutCity, x -> x.drift(1), NOT);
        refused(RefusalsEdgesTest::withoutCity, x -> x.drift(0), OUTSIDE);
        refused(RefusalsEdgesTest::above9000, x -> x.drift(1), FULL);
        refused(RefusalsEdgesTest::above9000, x -> x.drift(41), OUTSIDE);
    }

    @Says(of = 15, words = "how many more can be. NOT: none.")
    void undoRefused() {
        refused(RefusalsEdgesTest::unchanged, x -> x.undo(), NOT);
        refused(RefusalsEdgesTest::withoutCity, x -> x.undo(), NOT);
    }

    @Says(of = {16, 17, 18, 19, 20}, words = "What is refused changes nothing.")
    void tryingRefused() {
        refused(x -> x.raise(16, 99, NONE), UNKNOWN);
        refused(x -> x.raise(-1, 99, NONE), UNKNOWN);
        refused(x -> x.raise(15, -1, NONE), OUTSIDE);
        refused(x -> x.raise(15, 1000, 0), OUTSIDE);
        refused(x -> x.raise(16, 1000, 0), UNKNOWN);
        refused(x -> x.leastHarm(4, 0), UNKNOWN);
        refused(x -> x.leastHarm(0, 2), OUTSIDE);
        refused(x -> x.leastHarm(4, 2), UNKNOWN);
        refused(x -> x.leastHarm(3, 2), OUTSIDE);
        refused(x -> x.bread(4), UNKNOWN);
        refused(x -> x.free(2), OUTSIDE);
        refused(x -> x.sleeps(61, 0), OUTSIDE);
        refused(x -> x.sleeps(0, 101), OUTSIDE);
    }

    @Says(of = {16, 17, 18, 19, 20, 22, 23, 26}, words = "3 TRIED; nothing changes by it")
    void tryingChangesNothing() {
        changesNothing(x -> x.raise(0, 99, NONE));
        changesNothing(x -> x.raise(7, 99, 0));
        changesNothing(x -> x.raise(15, 0, 0));
        changesNothing(x -> x.leastHarm(0, 0));
        changesNothing(x -> x.leastHarm(2, 1));
        changesNothing(x -> x.leastHarm(3, 1));
        changesNothing(x -> x.bread(1));
        changesNothing(x -> x.free(1));
        changesNothing(x -> x.sleeps(60, 1));
        changesNothing(x -> x.orders(NONE));
        changesNothing(x -> x.orders(0));
        changesNothing(x -> x.lookNext());
        changesNothing(x -> x.judge());
    }

    @Says(of = {21, 22}, words = "p was UP earlier than q: how much. UNKNOWN, FULL (6).")
    void seeRefused() {
        refused(x -> x.see(0, 0), UNKNOWN);
        refused(x -> x.see(4, 0), UNKNOWN);
        refused(x -> x.see(0, -1), UNKNOWN);
        refused(RefusalsEdgesTest::fullWindows, x -> x.see(1, 0), FULL);
        refused(RefusalsEdgesTest::fullWindows, x -> x.see(1, 1), UNKNOWN);
        refused(RefusalsEdgesTest::fullWindows, x -> x.see(2, 0), UNKNOWN);
        refused(x -> x.orders(4), UNKNOWN);
        refused(x -> x.orders(-2), UNKNOWN);
    }

    @Says(of = 24, words = "An entry behind THE BOOK (NONE .. 999): how many. UNKNOWN, OUTSIDE, FULL (15).")
    void writeRefused() {
        refused(x -> x.write(4, 0), UNKNOWN);
        refused(x -> x.write(0, -2), OUTSIDE);
        refused(x -> x.write(0, 1000), OUTSIDE);
        refused(x -> x.write(4, 1000), UNKNOWN);
        refused(RefusalsEdgesTest::fullBook, x -> x.write(0, 12), FULL);
        refused(RefusalsEdgesTest::fullBook, x -> x.write(0, 1000), OUTSIDE);
        refused(RefusalsEdgesTest::fullBook, x -> x.write(1, 12), UNKNOWN);
    }

    @Says(of = 27, words = "THE SEED becomes v (0 .. 2147483647): what it was. OUTSIDE.")
    void seedRefused() {
        refused(x -> x.seed(-1), OUTSIDE);
        refused(x -> x.seed(LEAST), OUTSIDE);
    }

    @Says(of = {28, 29}, words = "(a PERSON, JOB, IMAGE that there is not")
    void imagesRefused() {
        refused(x -> x.keep(2), UNKNOWN);
        refused(x -> x.keep(-1), UNKNOWN);
        refused(x -> x.goBack(2), UNKNOWN);
        refused(x -> x.goBack(-1), UNKNOWN);
        refused(x -> x.goBack(1), NOT);
    }
}
