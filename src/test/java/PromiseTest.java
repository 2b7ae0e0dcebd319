/** For each promise: ordinary inputs, the edges that the document names, and wrong inputs. */
public final class PromiseTest {
    private static final int NONE = -1, UNKNOWN = -1000000001, OUTSIDE = -1000000002, NOT = -1000000003, FULL = -1000000004;
    private static final int LEAST = Integer.MIN_VALUE, GREATEST = Integer.MAX_VALUE;

    /** A ring: 1 waits for job 1 of 2, who may not be up before 1. */
    private static final String RING = "c100;p10;p20;p5;j0 5 9;j2 7 0;j2 3 9;w1 1;";
    /** Nobody waits; 0 is up at 50, the others at 50 by law. */
    private static final String LATE_KING = "c200;p50;p10;p20;p30;j1 10 9;j2 5 0;j3 40 1;j3 9 9;";
    private static final String FULL_CITY = "c999;p0;p1;p2;p3;p4;p5;j0 1 9;j1 1 9;j2 1 9;j3 1 9;j4 1 9;j5 1 9;j0 1 9;j1 1 9;";

    private final Tally tally = new Tally();

    public static void main(String[] args) {
        PromiseTest t = new PromiseTest();
        t.newObject();
        t.feed();
        t.city();
        t.fault();
        t.faultsOfNumbers();
        t.faultsOfTooMany();
        t.told();
        t.person();
        t.upByLaw();
        t.job();
        t.order();
        t.rank();
        t.eyes();
        t.hand();
        t.dismiss();
        t.wake();
        t.drift();
        t.undo();
        t.raise();
        t.leastHarm();
        t.bread();
        t.free();
        t.sleeps();
        t.see();
        t.orders();
        t.lookNext();
        t.write();
        t.tear();
        t.judge();
        t.seed();
        t.keep();
        t.goBack();
        if (!t.tally.close("promises")) {
            System.exit(1);
        }
    }

    private void due(String call, long got, long want) {
        tally.due(call, got, want);
    }

    private static int load(WakeOrder x, String text) {
        for (int i = 0; i < text.length(); i++) {
            x.feed(text.charAt(i));
        }
        return x.city();
    }

    private static WakeOrder city(String text) {
        WakeOrder x = new WakeOrder();
        load(x, text);
        return x;
    }

    private void order(WakeOrder x, String name, int... persons) {
        for (int i = 0; i < persons.length; i++) {
            due(name + ": order(" + i + ")", x.order(i), persons[i]);
        }
        due(name + ": order(behind)", x.order(persons.length), NONE);
    }

    private void ups(WakeOrder x, String name, int... minutes) {
        for (int p = 0; p < minutes.length; p++) {
            due(name + ": person(" + p + ", 3)", x.person(p, 3), minutes[p]);
        }
    }

    private void dones(WakeOrder x, String name, int... minutes) {
        for (int j = 0; j < minutes.length; j++) {
            due(name + ": job(" + j + ", 3)", x.job(j, 3), minutes[j]);
        }
    }

    // Promise 1
    private void newObject() {
        WakeOrder x = new WakeOrder();
        for (int what = 0; what <= 11; what++) {
            due("1: told(" + what + ")", x.told(what), 0);
        }
        due("1: fault", x.fault(), NONE);
        due("1: person", x.person(0, 0), UNKNOWN);
        due("1: job", x.job(0, 0), UNKNOWN);
        due("1: order", x.order(0), NONE);
        due("1: eyes", x.eyes(0, true), UNKNOWN);
        due("1: hand", x.hand(0, 0), UNKNOWN);
        due("1: dismiss", x.dismiss(0), UNKNOWN);
        due("1: drift", x.drift(1), NOT);
        due("1: undo", x.undo(), NOT);
        due("1: raise", x.raise(0, 0, NONE), 0);
        due("1: raise nobody", x.raise(0, 0, 0), NONE);
        due("1: raise unknown", x.raise(1, 0, 0), UNKNOWN);
        due("1: free", x.free(1), 0);
        due("1: orders", x.orders(NONE), 1);
        due("1: lookNext", x.lookNext(), NONE);
        due("1: judge", x.judge(), NONE);
        due("1: tear", x.tear(), 0);
        due("1: goBack", x.goBack(0), NOT);
        due("1: seed", x.seed(0), 0);
    }

    // Promise 2
    private void feed() {
        WakeOrder x = new WakeOrder();
        due("2: feed(-1)", x.feed(-1), OUTSIDE);
        due("2: feed(256)", x.feed(256), OUTSIDE);
        due("2: feed least", x.feed(LEAST), OUTSIDE);
        due("2: feed greatest", x.feed(GREATEST), OUTSIDE);
        due("2: nothing came", x.told(3), 0);
        due("2: feed(0)", x.feed(0), 1);
        due("2: feed(255)", x.feed(255), 2);
        for (int i = 3; i <= 220; i++) {
            due("2: feed blank", x.feed(32), i);
        }
        due("2: full", x.feed(32), FULL);
        due("2: OUTSIDE ahead of FULL", x.feed(256), OUTSIDE);
        due("2: letters", x.told(3), 220);
        due("2: its fault is the first letter", x.city(), -11);
        due("2: the text is empty", x.feed(99), 1);
    }

    // Promise 3
    private void city() {
        WakeOrder x = new WakeOrder();
        due("3: six", load(x, FULL_CITY), 6);
        due("3: eight jobs", x.told(2), 8);
        due("3: nobody", load(x, "c10;"), 0);
        due("3: but a city", x.drift(1), 1);
        due("3: blanks alone", load(x, "   "), 0);
        due("3: no city", x.drift(1), NOT);
        due("3: blanks anywhere", load(x, " c 0100 ;"), -12);
        due("3: blanks anywhere", load(x, "  c 100 ; p 5 ;p007;j 1  2   9 ; w 0 0 ; "), 2);
        due("3: M", x.told(0), 100);
        due("3: W", x.person(1, 0), 7);
        due("3: letters", x.told(3), 0);
        cityForgets();
        cityKeeps();
        x = city("c10;p10;p999;");
        due("3: W at M or later is no fault", x.told(1), 2);
        ups(x, "3: but never up", NONE, NONE);
        due("3: a full text", load(new WakeOrder(), "c100;" + " ".repeat(211) + "p09;"), 1);
    }

    private void cityForgets() {
        WakeOrder x = city(RING);
        x.drift(3);
        x.keep(0);
        x.eyes(1, true);
        x.dismiss(0);
        x.see(0, 1);
        x.write(0, 5);
        int seed = x.seed(77);
        due("3: the seed moved", seed == 0 ? 0 : 1, 1);
        due("3: again", load(x, RING), 3);
        int[] want = {100, 3, 3, 0, 0, 0, 0, 6, 6, 0, 0, 0};
        for (int what = 0; what <= 11; what++) {
            due("3: told(" + what + ")", x.told(what), want[what]);
        }
        due("3: W is as told", x.person(0, 0), 10);
        due("3: no image", x.goBack(0), NOT);
        due("3: the seed stays", x.seed(0), 77);
    }

    private void cityKeeps() {
        WakeOrder x = city(RING);
        x.keep(1);
        x.wake(0, 11);
        x.see(0, 1);
        x.write(0, 5);
        due("3: a fault", load(x, "c20;p1;x"), -11);
        due("3: M is as it was", x.told(0), 100);
        due("3: persons", x.told(1), 3);
        due("3: W", x.person(0, 0), 11);
        due("3: seen", x.told(9), 1);
        due("3: book", x.told(10), 1);
        due("3: undo", x.told(11), 1);
        due("3: the text is empty", x.told(3), 0);
        due("3: image", x.goBack(1), 1);
    }

    private void fault(String text, int kind, int place) {
        WakeOrder x = new WakeOrder();
        due("4: city of '" + text + "'", load(x, text), -10 - kind);
        due("4: fault of '" + text + "'", x.fault(), place);
    }

    // Promise 4
    private void fault() {
        WakeOrder x = new WakeOrder();
        load(x, "p");
        due("4: at the head", x.fault(), 0);
        load(x, "  c10;");
        due("4: none", x.fault(), NONE);
        load(x, "c10; x");
        due("4: at 5", x.fault(), 5);
        load(x, "");
        due("4: none of an empty text", x.fault(), NONE);
        fault("  j", 1, 2);
        fault("w", 1, 0);
        fault(";", 1, 0);
        fault("C10;", 1, 0);
        fault("7", 1, 0);
        fault("c", 1, 1);
        fault("c  ", 1, 3);
        fault("c10", 1, 3);
        fault("c10  ", 1, 5);
        fault("c1 0;", 2, 1);
        fault("c10 0;", 1, 4);
        fault("c10;;", 1, 4);
        fault("c10;p;", 1, 5);
        fault("c10;p-1;", 1, 5);
        fault("c10;p1 2;", 1, 7);
        fault("c10;p1p2;", 1, 6);
        fault("c10;p1;j0 1;", 1, 11);
        fault("c10;p1;j0 1 9 9;", 1, 14);
        fault("c10;p1;j0 1 9;w0;", 1, 16);
        fault("c10;p1;j0 1 9;w0 0", 1, 18);
        fault("c10\t;", 1, 3);
    }

    private void faultsOfNumbers() {
        fault("c9;", 2, 1);
        fault("c 009;", 2, 2);
        fault("c0010;", 2, 1);
        fault("c1000x", 2, 1);
        fault("c10;p0000;", 2, 5);
        fault("c10;p1;j1 1 9;", 2, 8);
        fault("c10;p1;j0 0 9;", 2, 10);
        fault("c10;p1;j0 100 9;", 2, 10);
        fault("c10;p1;j0 99 0;", 2, 13);
        fault("c10;p1;j0 99 8;", 2, 13);
        fault("c10;p1;j0 99 10;", 2, 13);
        fault("c10;p1;j0 99 0009;", 2, 13);
        fault("c10;p1;j0 99 9;j0 1 1;", 2, 20);
        fault("c10;p1;w0 0;", 2, 10);
        fault("c10;w0 0;", 2, 5);
        fault("c10;p1;j0 1 9;w1 0;", 2, 15);
        fault("c10;p1;j0 1 9;w0 9;", 2, 17);
        fault("c10;p1;j0 1 9;w0 1;", 2, 17);
        fault("c10;p1;j0 1 9;w0 0;w0000 0;", 2, 20);
        due("4: D may be 99, A 009", load(new WakeOrder(), "c10;p1;j0 99 009;j0 1 000;"), 1);
    }

    private void faultsOfTooMany() {
        fault("c10;c10;", 3, 4);
        fault("c10;p1; c", 3, 8);
        fault("c10;p1;p1;p1;p1;p1;p1;p", 3, 22);
        String eight = "c10;p1;" + "j0 1 9;".repeat(8);
        due("4: eight", load(new WakeOrder(), eight), 1);
        fault(eight + "j", 3, eight.length());
        fault("c10;p1;j0 1 9;w0 0; w 0 0;", 4, 22);
        fault("c10;p1;j0 1 9;w0 0;w0", 4, 20);
        fault("c10;p1;p1;j0 1 9;w0 0;w1 0;w0 7;", 4, 28);
    }

    // Promise 5
    private void told() {
        WakeOrder x = city(RING);
        x.eyes(0, true);
        x.dismiss(2);
        x.eyes(2, true);
        x.drift(2);
        x.wake(0, 10);
        x.wake(1, 20);
        x.see(0, 1);
        x.write(0, 15);
        x.write(0, 15);
        x.feed(99);
        int[] want = {100, 3, 3, 1, 2, 4, 5, 2, 6, 1, 2, 6};
        for (int what = 0; what <= 11; what++) {
            due("5: told(" + what + ")", x.told(what), want[what]);
        }
        due("5: told(-1)", x.told(-1), OUTSIDE);
        due("5: told(12)", x.told(12), OUTSIDE);
        due("5: told(least)", x.told(LEAST), OUTSIDE);
    }

    // Promise 6
    private void person() {
        WakeOrder x = city(RING);
        ups(x, "6: ring", 10, NONE, NONE);
        due("6: waits for nothing", x.person(0, 2), NONE);
        due("6: waits", x.person(1, 2), 1);
        due("6: W", x.person(2, 0), 5);
        due("6: jobs", x.person(2, 4), 2);
        due("6: no jobs", x.person(1, 4), 0);
        due("6: one job", x.person(0, 4), 1);
        x.rank(2, 0);
        due("6: place", x.person(0, 1), 1);
        x.dismiss(2);
        due("6: dismissed has no place", x.person(2, 1), NONE);
        due("6: dismissed is not up", x.person(2, 3), NONE);
        due("6: dismissed has his jobs", x.person(2, 4), 2);
        due("6: others come nearer", x.person(0, 1), 0);
        due("6: -1", x.person(-1, 0), UNKNOWN);
        due("6: 3", x.person(3, 0), UNKNOWN);
        due("6: what -1", x.person(0, -1), OUTSIDE);
        due("6: what 5", x.person(0, 5), OUTSIDE);
        due("6: UNKNOWN first", x.person(3, 5), UNKNOWN);
    }

    // Promise 6, the part of it that tells when one is up
    private void upByLaw() {
        WakeOrder x = city(LATE_KING);
        ups(x, "6: by law", 50, 50, 50, 50);
        x.eyes(1, true);
        ups(x, "6: shut is up as he wakes", 50, 10, 50, 50);
        x.eyes(0, true);
        ups(x, "6: shut holds up nobody", 50, 10, 20, 30);
        x.wake(1, 150);
        ups(x, "6: nor when late", 50, 150, 20, 30);
        x.eyes(1, false);
        ups(x, "6: open holds up", 50, 150, 150, 150);
        x.wake(1, 199);
        ups(x, "6: the last minute", 50, 199, 199, 199);
        x.wake(1, 200);
        ups(x, "6: at M", 50, NONE, NONE, NONE);
        x = city("c100;p10;p30;j0 20 9;w1 0;");
        ups(x, "6: wakes by himself if that is later", 10, 30);
        x.wake(0, 11);
        ups(x, "6: wakes by what is done", 11, 31);
        x.wake(0, 80);
        ups(x, "6: what is never done wakes nobody", 80, NONE);
        x = city("c100;p10;j0 20 9;w0 0;");
        ups(x, "6: waits for himself", NONE);
    }

    // Promise 7
    private void job() {
        WakeOrder x = city(LATE_KING);
        dones(x, "7: by law", 60, 65, 105, 114);
        due("7: doer", x.job(2, 0), 3);
        due("7: D", x.job(2, 1), 40);
        due("7: A", x.job(2, 2), 1);
        due("7: no A", x.job(3, 2), NONE);
        x.hand(3, 0);
        dones(x, "7: another does it", 60, 65, 105, 59);
        due("7: doer then", x.job(3, 0), 0);
        x.wake(0, 144);
        dones(x, "7: 199 is the last", 154, 159, 199, 153);
        x.wake(0, 145);
        dones(x, "7: done at M is not done", 155, 160, NONE, 154);
        x.hand(3, 3);
        dones(x, "7: nor what is behind it", 155, 160, NONE, NONE);
        x.wake(0, 0);
        dones(x, "7: early", 20, 25, 70, 79);
        x.dismiss(1);
        dones(x, "7: of a dismissed one", NONE, NONE, NONE, NONE);
        x.hand(0, 0);
        dones(x, "7: of another", 10, 25, 70, 79);
        due("7: -1", x.job(-1, 0), UNKNOWN);
        due("7: 4", x.job(4, 0), UNKNOWN);
        due("7: what -1", x.job(0, -1), OUTSIDE);
        due("7: what 4", x.job(0, 4), OUTSIDE);
        due("7: UNKNOWN first", x.job(4, 4), UNKNOWN);
    }

    // Promise 8
    private void order() {
        WakeOrder x = city(LATE_KING);
        order(x, "8", 0, 1, 2, 3);
        due("8: -1", x.order(-1), NONE);
        due("8: least", x.order(LEAST), NONE);
        due("8: greatest", x.order(GREATEST), NONE);
        x.dismiss(1);
        order(x, "8: less one", 0, 2, 3);
    }

    // Promise 9
    private void rank() {
        WakeOrder x = city(LATE_KING);
        due("9: to the head", x.rank(2, 0), 2);
        order(x, "9", 2, 0, 1, 3);
        due("9: down", x.rank(2, 3), 0);
        order(x, "9", 0, 1, 3, 2);
        due("9: stays", x.rank(1, 1), 1);
        order(x, "9", 0, 1, 3, 2);
        due("9: UNKNOWN", x.rank(4, 9), UNKNOWN);
        due("9: UNKNOWN -1", x.rank(-1, 0), UNKNOWN);
        due("9: OUTSIDE -1", x.rank(0, -1), OUTSIDE);
        due("9: OUTSIDE 4", x.rank(0, 4), OUTSIDE);
        x.dismiss(1);
        due("9: below how many there are", x.rank(0, 3), OUTSIDE);
        due("9: NOT", x.rank(1, 2), NOT);
        due("9: OUTSIDE first", x.rank(1, 3), OUTSIDE);
        order(x, "9: nothing changed", 0, 3, 2);
        due("9: refusals cannot be undone", x.told(11), 4);
        due("9: the last place", x.rank(0, 2), 0);
        order(x, "9", 3, 2, 0);
    }

    // Promise 10
    private void eyes() {
        WakeOrder x = city(LATE_KING);
        due("10: open", x.eyes(3, true), 0);
        due("10: shut", x.eyes(3, true), 1);
        due("10: set", x.told(6), 8);
        due("10: opened", x.eyes(3, false), 1);
        due("10: open still", x.eyes(3, false), 0);
        due("10: set", x.told(6), 0);
        due("10: UNKNOWN", x.eyes(4, true), UNKNOWN);
        due("10: UNKNOWN", x.eyes(-1, true), UNKNOWN);
        due("10: UNKNOWN", x.eyes(32, true), UNKNOWN);
        due("10: all four can be undone", x.told(11), 4);
        x.dismiss(0);
        due("10: of a dismissed one", x.eyes(0, true), 0);
        due("10: set", x.told(6), 1);
    }

    // Promise 11
    private void hand() {
        WakeOrder x = city(LATE_KING);
        due("11: hand", x.hand(0, 3), 1);
        due("11: back", x.hand(0, 1), 3);
        due("11: to whom has it", x.hand(0, 1), 1);
        dones(x, "11", 60, 65, 105, 114);
        x.dismiss(2);
        due("11: to a dismissed one", x.hand(0, 2), 1);
        dones(x, "11", NONE, NONE, NONE, NONE);
        due("11: job", x.hand(4, 0), UNKNOWN);
        due("11: job -1", x.hand(-1, 0), UNKNOWN);
        due("11: person", x.hand(0, 4), UNKNOWN);
        due("11: person -1", x.hand(0, -1), UNKNOWN);
        due("11: nothing changed", x.job(0, 0), 2);
        due("11: refusals cannot be undone", x.told(11), 5);
        x = city(FULL_CITY);
        due("11: lesser first", x.hand(7, 0), 1);
        dones(x, "11: lesser first", 1, 2, 3, 4, 5, 6, 2, 3);
    }

    // Promise 12
    private void dismiss() {
        WakeOrder x = city(LATE_KING);
        due("12: three are left", x.dismiss(0), 3);
        due("12: set", x.told(5), 1);
        ups(x, "12: he holds up nobody", NONE, 10, 20, 30);
        due("12: NOT", x.dismiss(0), NOT);
        due("12: two", x.dismiss(3), 2);
        due("12: one", x.dismiss(1), 1);
        due("12: none", x.dismiss(2), 0);
        due("12: set", x.told(5), 15);
        due("12: undone", x.told(8), 15);
        due("12: nobody is stuck", x.told(7), 0);
        due("12: UNKNOWN", x.dismiss(4), UNKNOWN);
        due("12: UNKNOWN", x.dismiss(-1), UNKNOWN);
        due("12: four can be undone", x.told(11), 4);
    }

    // Promise 13
    private void wake() {
        WakeOrder x = city(LATE_KING);
        due("13: wake", x.wake(0, 0), 50);
        ups(x, "13", 0, 10, 20, 30);
        due("13: 999", x.wake(0, 999), 0);
        due("13: what it was", x.wake(0, 5), 999);
        due("13: UNKNOWN", x.wake(4, 1000), UNKNOWN);
        due("13: UNKNOWN", x.wake(-1, 0), UNKNOWN);
        due("13: OUTSIDE", x.wake(0, 1000), OUTSIDE);
        due("13: OUTSIDE", x.wake(0, -1), OUTSIDE);
        due("13: nothing changed", x.person(0, 0), 5);
        due("13: three can be undone", x.told(11), 3);
        x.dismiss(2);
        due("13: of a dismissed one", x.wake(2, 7), 20);
    }

    // Promise 14
    private void drift() {
        WakeOrder x = city("c300;p1;p2;p3;p4;");
        x.seed(4);
        due("14: two", x.drift(2), 2);
        due("14: by number", x.person(0, 0), 107);
        due("14: by number", x.person(3, 0), 221);
        due("14: 0", x.drift(0), OUTSIDE);
        due("14: 41", x.drift(41), OUTSIDE);
        due("14: -1", x.drift(-1), OUTSIDE);
        due("14: 40", x.drift(40), 42);
        due("14: no city, but OUTSIDE first", new WakeOrder().drift(0), OUTSIDE);
        due("14: no city", new WakeOrder().drift(40), NOT);
        x = city("c10;p1;");
        x.seed(1);
        x.drift(1);
        due("14: 1103527590 / 65536 % 10", x.person(0, 0), 8);
        due("14: the seed", x.seed(0), 1103527590);
        x.dismiss(0);
        x.seed(1);
        x.drift(1);
        due("14: a dismissed one, too", x.person(0, 0), 8);
        x = city("c10;");
        for (int m = 40; m <= 8960; m += 40) {
            x.drift(40);
        }
        due("14: 9000", x.drift(40), 9000);
        due("14: not above 9000", x.drift(1), 9001);
        due("14: above", x.drift(1), FULL);
        due("14: OUTSIDE first", x.drift(0), OUTSIDE);
        due("14: nothing changed", x.told(4), 9001);
        x.undo();
        due("14: 9000 again, may be passed", x.drift(40), 9040);
        due("14: nobody draws", x.seed(0), 0);
    }

    // Promise 15
    private void undo() {
        WakeOrder x = city(LATE_KING);
        due("15: none", x.undo(), NOT);
        x.rank(3, 0);
        x.eyes(1, true);
        x.hand(0, 2);
        x.dismiss(0);
        x.wake(2, 77);
        x.drift(3);
        int seed = x.seed(5);
        x.seed(seed);
        due("15: drift", x.undo(), 5);
        due("15: mornings", x.told(4), 0);
        due("15: W", x.person(2, 0), 77);
        due("15: the seed stays", x.seed(seed), seed);
        due("15: wake", x.undo(), 4);
        due("15: W", x.person(2, 0), 20);
        due("15: dismiss", x.undo(), 3);
        order(x, "15", 3, 0, 1, 2);
        due("15: hand", x.undo(), 2);
        due("15: doer", x.job(0, 0), 1);
        due("15: eyes", x.undo(), 1);
        due("15: set", x.told(6), 0);
        due("15: rank", x.undo(), 0);
        order(x, "15", 0, 1, 2, 3);
        due("15: none", x.undo(), NOT);
        undoIsKeptShort();
    }

    private void undoIsKeptShort() {
        WakeOrder x = city(LATE_KING);
        for (int w = 100; w < 125; w++) {
            x.wake(0, w);
            due("15: kept", x.told(11), Math.min(20, w - 99));
        }
        for (int w = 123; w >= 104; w--) {
            due("15: undo", x.undo(), w - 104);
            due("15: W", x.person(0, 0), w);
        }
        due("15: the oldest are lost", x.undo(), NOT);
        due("15: W", x.person(0, 0), 104);
        x.wake(0, 1);
        x.see(0, 1);
        x.write(0, 1);
        due("15: goes on", x.undo(), 0);
        due("15: seen stays", x.told(9), 1);
        due("15: book stays", x.told(10), 1);
    }

    // Promise 16
    private void raise() {
        WakeOrder x = city(LATE_KING);
        due("16: as it is", x.raise(15, 114, NONE), 0);
        due("16: as it is", x.raise(15, 114, 3), 3);
        due("16: one minute sooner", x.raise(15, 113, NONE), 1);
        due("16: 1 goes ahead of 0", x.raise(15, 113, 0), 1);
        due("16: then 0", x.raise(15, 113, 1), 0);
        due("16: then 2", x.raise(15, 113, 2), 2);
        due("16: all that can be", x.raise(15, 79, NONE), 3);
        due("16: in order", x.raise(15, 79, 0), 1);
        due("16: in order", x.raise(15, 79, 1), 2);
        due("16: in order", x.raise(15, 79, 2), 3);
        due("16: in order", x.raise(15, 79, 3), 0);
        due("16: behind", x.raise(15, 79, 4), NONE);
        due("16: i below -1", x.raise(15, 79, -2), NONE);
        due("16: not before", x.raise(15, 78, NONE), NONE);
        due("16: not before", x.raise(15, 78, 0), NONE);
        due("16: no jobs", x.raise(0, 0, NONE), 0);
        due("16: job 0 alone", x.raise(1, 20, 0), 1);
        due("16: job 0 alone", x.raise(1, 19, 0), NONE);
        due("16: job 3 alone", x.raise(8, 60, NONE), NONE);
        due("16: bits", x.raise(16, 0, NONE), UNKNOWN);
        due("16: bits below 0", x.raise(-1, 1000, NONE), UNKNOWN);
        due("16: bits least", x.raise(LEAST, 0, NONE), UNKNOWN);
        due("16: t -1", x.raise(0, -1, NONE), OUTSIDE);
        due("16: t 1000", x.raise(0, 1000, NONE), OUTSIDE);
        due("16: t 999", x.raise(15, 999, NONE), 0);
        due("16: nothing changes", x.order(0), 0);
        x.dismiss(0);
        due("16: less one", x.raise(15, 79, NONE), 0);
        due("16: less one", x.raise(15, 79, 0), 1);
        due("16: less one", x.raise(15, 79, 3), NONE);
        x = city("c100;p50;p10;p10;j0 1 9;j2 1 9;");
        due("16: 2 goes to the head alone", x.raise(2, 11, NONE), 1);
        due("16: 1 ahead of 2 would raise two", x.raise(2, 11, 0), 2);
        due("16: then 0", x.raise(2, 11, 1), 0);
        x.rank(2, 1);
        due("16: by the order now", x.raise(2, 11, NONE), 1);
        due("16: of like ones the first", x.raise(2, 11, 0), 1);
        due("16: of like ones the first", x.raise(2, 11, 1), 2);
    }

    // Promise 17
    private void leastHarm() {
        WakeOrder x = city(LATE_KING);
        due("17: the king last", x.leastHarm(0, 0), 3);
        due("17: 10 + 20 + 30", x.leastHarm(0, 1), 60);
        due("17: 50 + 50 + 50 anywhere: least place", x.leastHarm(1, 0), 0);
        due("17: how much", x.leastHarm(1, 1), 150);
        due("17: nothing changes", x.order(0), 0);
        x.wake(0, 200);
        due("17: M for never", x.leastHarm(1, 1), 600);
        due("17: the king last", x.leastHarm(0, 1), 60);
        x.dismiss(1);
        due("17: dismissed ones are not added", x.leastHarm(0, 1), 50);
        due("17: place among those left", x.leastHarm(0, 0), 2);
        due("17: NONE", x.leastHarm(1, 0), NONE);
        due("17: NONE", x.leastHarm(1, 1), NONE);
        due("17: OUTSIDE", x.leastHarm(1, 2), OUTSIDE);
        due("17: OUTSIDE", x.leastHarm(0, -1), OUTSIDE);
        due("17: UNKNOWN", x.leastHarm(4, 2), UNKNOWN);
        due("17: UNKNOWN", x.leastHarm(-1, 0), UNKNOWN);
        x.dismiss(2);
        x.dismiss(3);
        due("17: alone", x.leastHarm(0, 0), 0);
        due("17: alone", x.leastHarm(0, 1), 0);
    }

    // Promise 18
    private void bread() {
        WakeOrder x = city(LATE_KING);
        // with all eyes shut: 20, 25, 70, 79
        due("18: 60 - 20", x.bread(0), 40);
        due("18: 65 - 25", x.bread(1), 40);
        due("18: 105 - 70", x.bread(2), 35);
        due("18: 114 - 79", x.bread(3), 35);
        x.wake(0, 199);
        due("18: M - 20", x.bread(0), 180);
        due("18: eyes are open still", x.told(6), 0);
        x.wake(1, 199);
        due("18: never and never", x.bread(0), 0);
        x = city("c100;p10;p40;p5;p2;p1;p0;j5 1 9;j4 1 9;j3 1 9;j0 1 9;");
        due("18: all shut", x.bread(0), 40);
        due("18: all shut", x.bread(1), 39);
        due("18: all shut", x.bread(2), 38);
        due("18: the head", x.bread(3), 0);
        x.dismiss(5);
        due("18: of a dismissed one", x.bread(0), 0);
        due("18: UNKNOWN", x.bread(4), UNKNOWN);
        due("18: UNKNOWN", x.bread(-1), UNKNOWN);
    }

    // Promise 19
    private void free() {
        WakeOrder x = city(RING);
        due("19: one of 1, 2", x.free(0), 1);
        due("19: without 1", x.free(1), 2);
        due("19: nothing changes", x.told(5), 0);
        x.dismiss(1);
        due("19: nobody", x.free(0), 0);
        due("19: nobody", x.free(1), 0);
        due("19: OUTSIDE", x.free(2), OUTSIDE);
        due("19: OUTSIDE", x.free(-1), OUTSIDE);
        x = city("c50;p1;p60;p2;p70;p3;");
        due("19: two", x.free(0), 2);
        due("19: 1 and 3", x.free(1), 10);
        x.dismiss(0);
        x.dismiss(3);
        due("19: new ones alone", x.free(1), 2);
        x = city("c50;p60;p60;");
        due("19: all", x.free(1), 3);
        // 2 never wakes without job 0 of 0, who wakes too late: without 0 job 0 is never done either
        x = city("c50;p60;p1;p1;j0 1 9;w2 0;");
        due("19: one makes another one stuck", x.free(1), 5);
        // 0 or 2: without 0 job 0 is done at 21; without 2 nobody waits for it
        x = city("c50;p40;p1;p1;j1 20 9;w2 0;");
        due("19: of like ones the least", x.free(1), 1);
        due("19: of like ones the least", x.free(0), 1);
        x = city("c50;p1;p60;p1;");
        x.eyes(1, true);
        due("19: stuck with shut eyes", x.free(1), 2);
    }

    // Promise 20
    private void sleeps() {
        WakeOrder x = new WakeOrder();
        due("20: n 0", x.sleeps(0, 100), 1000000000);
        due("20: q 0", x.sleeps(60, 0), 1000000000);
        due("20: q 100", x.sleeps(1, 100), 0);
        due("20: cut each", x.sleeps(10, 10), 348678440);
        due("20: cut each", x.sleeps(5, 99), 0);
        due("20: 4 of 99", x.sleeps(4, 99), 10);
        due("20: one", x.sleeps(1, 33), 670000000);
        due("20: n -1", x.sleeps(-1, 0), OUTSIDE);
        due("20: n 61", x.sleeps(61, 0), OUTSIDE);
        due("20: q -1", x.sleeps(0, -1), OUTSIDE);
        due("20: q 101", x.sleeps(0, 101), OUTSIDE);
    }

    // Promise 21
    private void see() {
        WakeOrder x = city(LATE_KING);
        due("21: same", x.see(1, 1), UNKNOWN);
        due("21: 4", x.see(1, 4), UNKNOWN);
        due("21: 4", x.see(4, 1), UNKNOWN);
        due("21: -1", x.see(-1, 1), UNKNOWN);
        due("21: -1", x.see(1, -1), UNKNOWN);
        x.dismiss(3);
        for (int k = 1; k <= 6; k++) {
            due("21: how much", x.see(3, k % 3), k);
        }
        due("21: FULL", x.see(0, 1), FULL);
        due("21: UNKNOWN first", x.see(0, 0), UNKNOWN);
        due("21: six", x.told(9), 6);
        due("21: cannot be undone", x.undo(), 0);
        due("21: six still", x.told(9), 6);
    }

    // Promise 22
    private void orders() {
        WakeOrder x = city("c200;p50;p10;p20;");
        due("22: all", x.orders(NONE), 6);
        due("22: not sure", x.orders(0), NONE);
        x.see(1, 0);
        due("22: 1 ahead of 0", x.orders(NONE), 3);
        due("22: 0 is second or last", x.orders(0), NONE);
        x.see(2, 0);
        due("22: 0 is last", x.orders(NONE), 2);
        due("22: sure", x.orders(0), 2);
        due("22: not sure", x.orders(1), NONE);
        x.see(1, 2);
        due("22: one", x.orders(NONE), 1);
        due("22: sure", x.orders(1), 0);
        due("22: sure", x.orders(2), 1);
        x.see(0, 1);
        due("22: none", x.orders(NONE), 0);
        due("22: sure of nothing", x.orders(1), NONE);
        due("22: UNKNOWN", x.orders(3), UNKNOWN);
        due("22: UNKNOWN", x.orders(-2), UNKNOWN);
        ordersOfDismissed();
        ordersOfStuck();
    }

    private void ordersOfDismissed() {
        WakeOrder x = city("c200;p50;p10;p20;");
        x.see(1, 0);
        x.see(2, 0);
        x.dismiss(0);
        due("22: the dismissed one is never", x.orders(NONE), 2);
        due("22: has no place", x.orders(0), NONE);
        x.see(0, 1);
        due("22: he was never earlier", x.orders(NONE), 0);
        x.dismiss(1);
        x.dismiss(2);
        due("22: of nobody none", x.orders(NONE), 0);
        x.tear();
        due("22: of nobody one", x.orders(NONE), 1);
    }

    private void ordersOfStuck() {
        WakeOrder x = city("c200;p50;p300;p20;");
        x.see(0, 1);
        // 0 ahead of 1
        due("22: than one who was never", x.orders(NONE), 3);
        x.see(1, 2);
        due("22: never is not earlier", x.orders(NONE), 0);
        x.tear();
        x.eyes(1, true);
        x.see(0, 1);
        due("22: eyes as when asked", x.orders(NONE), 6);
        x.see(2, 0);
        due("22: 2 ahead of 0", x.orders(NONE), 3);
    }

    // Promise 23
    private void lookNext() {
        WakeOrder x = city("c200;p50;p10;p20;");
        // 0 is never earlier; 1 earlier than 2 in two orders of six: 1 2 0, 1 0 2
        due("23: 12", x.lookNext(), 12);
        x.see(1, 2);
        // 1 2 0: 2 at 20; 1 0 2: 2 at 50; in both 1 is earlier than 2 and 0 is earlier than nobody
        due("23: none parts", x.lookNext(), NONE);
        x = city("c200;p10;p20;p50;");
        // 0 1 2: 10 20 50; 0 2 1: 10 50 50; 1 0 2: 20 20 50; 1 2 0: 50 20 50; 2 ..: 50 50 50
        // 01 earlier in 2 of 6, 02 in 3 of 6, 12 in 3 of 6
        due("23: of like ones the least", x.lookNext(), 2);
        x.see(0, 2);
        // left: 0 1 2, 0 2 1, 1 0 2: 01 in 2, 12 in 2
        due("23: then 01", x.lookNext(), 1);
        x.see(1, 0);
        due("23: nothing fits", x.lookNext(), NONE);
        // 2, who is dismissed, is never: then 02 tells whether 0 is up at all, as in 0 1, not in 1 0
        x = city("c100;p10;p100;p5;");
        x.dismiss(2);
        due("23: 01 and 02 part alike", x.lookNext(), 1);
        x.dismiss(1);
        due("23: one order", x.lookNext(), NONE);
        x = city("c100;p100;p10;p5;");
        x.dismiss(2);
        due("23: 12 tells whether 1 is up", x.lookNext(), 12);
        x = city("c100;p100;p10;");
        due("23: but there must be a 2", x.lookNext(), NONE);
        due("23: no city", new WakeOrder().lookNext(), NONE);
    }

    // Promise 24
    private void write() {
        WakeOrder x = city(LATE_KING);
        due("24: UNKNOWN", x.write(4, 1000), UNKNOWN);
        due("24: UNKNOWN", x.write(-1, 0), UNKNOWN);
        due("24: OUTSIDE", x.write(0, -2), OUTSIDE);
        due("24: OUTSIDE", x.write(0, 1000), OUTSIDE);
        for (int k = 1; k <= 15; k++) {
            due("24: how many", x.write(k % 4, k == 1 ? NONE : k == 2 ? 999 : 0), k);
        }
        due("24: FULL", x.write(0, 0), FULL);
        due("24: OUTSIDE first", x.write(0, 1000), OUTSIDE);
        due("24: UNKNOWN first", x.write(4, 0), UNKNOWN);
        due("24: entries", x.told(10), 15);
        due("24: cannot be undone", x.undo(), NOT);
    }

    // Promise 25
    private void tear() {
        WakeOrder x = city(LATE_KING);
        due("25: nothing", x.tear(), 0);
        x.see(0, 1);
        x.see(1, 0);
        x.write(0, 0);
        due("25: both", x.tear(), 3);
        due("25: seen", x.told(9), 0);
        due("25: book", x.told(10), 0);
        due("25: all orders fit", x.orders(NONE), 24);
        due("25: nothing is wrong", x.judge(), NONE);
        due("25: anew", x.see(0, 1), 1);
    }

    // Promise 26
    private void judge() {
        WakeOrder x = city(LATE_KING);
        x.write(0, 60);
        x.write(3, 114);
        due("26: right", x.judge(), NONE);
        x.write(1, 66);
        x.write(2, 0);
        due("26: the first", x.judge(), 2);
        x.wake(0, 51);
        due("26: now", x.judge(), 0);
        x.tear();
        x.write(0, NONE);
        due("26: it is done", x.judge(), 0);
        x.dismiss(1);
        due("26: never", x.judge(), NONE);
        x.write(0, 200);
        due("26: M is not never", x.judge(), 1);
    }

    // Promise 27
    private void seed() {
        WakeOrder x = new WakeOrder();
        due("27: 0 at first", x.seed(GREATEST), 0);
        due("27: -1", x.seed(-1), OUTSIDE);
        due("27: least", x.seed(LEAST), OUTSIDE);
        due("27: what it was", x.seed(3), GREATEST);
        due("27: 0", x.seed(0), 3);
        load(x, "c999;p1;p1;");
        x.seed(GREATEST);
        x.drift(1);
        // 2147483647 * 1103515245 + 12345, left over by 2 to the 31, is 1043980748
        due("27: first draw", x.person(0, 0), 1043980748 / 65536 % 999);
    }

    // Promise 28
    private void keep() {
        WakeOrder x = new WakeOrder();
        due("28: without a city", x.keep(0), 1);
        due("28: -1", x.keep(-1), UNKNOWN);
        due("28: 2", x.keep(2), UNKNOWN);
        x = city(LATE_KING);
        x.rank(3, 0);
        due("28: refused", x.keep(2), UNKNOWN);
        due("28: so one can be undone", x.told(11), 1);
        due("28: kept", x.keep(1), 1);
        due("28: nothing can be undone", x.undo(), NOT);
        due("28: nor told", x.told(11), 0);
        x.rank(2, 0);
        due("28: the other one was not", x.goBack(0), NOT);
        due("28: kept again", x.keep(1), 1);
        x.rank(1, 0);
        x.goBack(1);
        order(x, "28: the later", 2, 3, 0, 1);
    }

    // Promise 29
    private void goBack() {
        WakeOrder x = city(LATE_KING);
        due("29: NOT", x.goBack(0), NOT);
        due("29: UNKNOWN", x.goBack(-1), UNKNOWN);
        due("29: UNKNOWN", x.goBack(2), UNKNOWN);
        x.rank(3, 0);
        x.eyes(1, true);
        x.hand(0, 2);
        x.dismiss(0);
        x.drift(3);
        x.wake(2, 77);
        x.seed(9);
        x.keep(0);
        x.undo();
        x.rank(3, 2);
        x.eyes(1, false);
        x.hand(0, 1);
        x.dismiss(2);
        x.drift(1);
        x.wake(2, 7);
        x.see(0, 1);
        x.write(0, 1);
        due("29: refused", x.goBack(1), NOT);
        due("29: six can be undone", x.told(11), 6);
        due("29: back", x.goBack(0), 1);
        due("29: none can be undone", x.undo(), NOT);
        order(x, "29", 3, 1, 2);
        due("29: eyes", x.told(6), 2);
        due("29: doer", x.job(0, 0), 2);
        due("29: W", x.person(2, 0), 77);
        due("29: mornings", x.told(4), 3);
        due("29: seen stays", x.told(9), 1);
        due("29: book stays", x.told(10), 1);
        due("29: the seed", x.seed(0), 9);
        x.wake(2, 5);
        due("29: once more", x.goBack(0), 1);
        due("29: W", x.person(2, 0), 77);
        due("29: the seed", x.seed(0), 9);
    }
}
