/** Edges of rank, eyes, hand, dismiss, wake, drift, undo. */
public final class DoneEdgesTest extends Edges {
    private static final int[] NOBODY = {-1, -2, 4, 5, 6, 31, 32, LEAST, GREATEST};

    public static void main(String[] args) throws Exception {
        new DoneEdgesTest().runAll();
    }

    /** A city of nobody at a morning, not above 9000 by more than 40. */
    private static WakeOrder atMorning(int morning) {
        WakeOrder x = city("c10;");
        for (int left = morning; left > 0; left -= 40) {
            x.drift(Math.min(left, 40));
        }
        return x;
    }

    // ---- rank

    @Says(of = 9, words = "A PERSON comes to a place of THE ORDER (0 the head; others stay in theirs): the place he had.")
    void rankToTheHeadAndTheEnd() {
        WakeOrder x = city(FULL_CITY);
        due(x.rank(5, 0), 5);
        order(x, 5, 0, 1, 2, 3, 4);
        due(x.rank(5, 5), 0);
        order(x, 0, 1, 2, 3, 4, 5);
        due(x.rank(0, 5), 0);
        order(x, 1, 2, 3, 4, 5, 0);
        due(x.rank(3, 1), 2);
        order(x, 1, 3, 2, 4, 5, 0);
        due(x.rank(3, 4), 1);
        order(x, 1, 2, 4, 5, 3, 0);
    }

    @Says(of = {9, 15}, words = "the place he had")
    void rankToHisOwnPlace() {
        WakeOrder x = city(FULL_CITY);
        due(x.rank(0, 0), 0);
        due(x.rank(5, 5), 5);
        order(x, 0, 1, 2, 3, 4, 5);
        // it was not refused
        due(x.told(11), 2);
    }

    @Says(of = 9, words = "OUTSIDE (below how many there are)")
    void rankOutside() {
        WakeOrder x = city(LATE_KING);
        for (int place : new int[] {-1, 4, 5, LEAST, GREATEST}) {
            due(x.rank(0, place), OUTSIDE);
        }
        due(x.rank(0, 3), 0);
        x.dismiss(1);
        due(x.rank(0, 3), OUTSIDE);
        due(x.rank(0, 2), 2);
        x.dismiss(2);
        x.dismiss(3);
        due(x.rank(0, 1), OUTSIDE);
        due(x.rank(0, 0), 0);
    }

    @Says(of = 9, words = "UNKNOWN, OUTSIDE (below how many there are), NOT: DISMISSED.")
    void rankOfADismissedOne() {
        WakeOrder x = city(LATE_KING);
        x.dismiss(1);
        due(x.rank(1, 0), NOT);
        due(x.rank(1, 2), NOT);
        due(x.rank(1, 3), OUTSIDE);
        due(x.rank(1, -1), OUTSIDE);
        x.undo();
        due(x.rank(1, 3), 1);
    }

    @Says(of = 9, words = "OUTSIDE (below how many there are)")
    void rankWhenNobodyIsLeft() {
        WakeOrder x = allDismissed(LATE_KING);
        due(x.rank(0, 0), OUTSIDE);
        due(x.rank(4, 0), UNKNOWN);
    }

    @Says(of = 9, words = "UNKNOWN, OUTSIDE (below how many there are)")
    void rankUnknown() {
        WakeOrder x = city(LATE_KING);
        for (int p : NOBODY) {
            due(x.rank(p, 0), UNKNOWN);
            due(x.rank(p, 9), UNKNOWN);
        }
        due(x.rank(3, 0), 3);
    }

    // ---- eyes

    @Says(of = 10, words = "EYES of a PERSON are SHUT (is), or open: 1 they were SHUT, 0 not.")
    void eyesOfTheFirstAndTheLast() {
        WakeOrder x = city(FULL_CITY);
        due(x.eyes(0, false), 0);
        due(x.eyes(0, true), 0);
        due(x.eyes(0, true), 1);
        due(x.eyes(5, true), 0);
        due(x.told(6), 33);
        due(x.eyes(0, false), 1);
        due(x.eyes(0, false), 0);
        due(x.told(6), 32);
        // each was done, also where nothing changed
        due(x.told(11), 6);
    }

    @Says(of = 10, words = "1 they were SHUT, 0 not. UNKNOWN.")
    void eyesUnknown() {
        WakeOrder x = city(LATE_KING);
        for (int p : NOBODY) {
            due(x.eyes(p, true), UNKNOWN);
            due(x.eyes(p, false), UNKNOWN);
        }
        due(x.eyes(3, true), 0);
        due(x.told(6), 8);
    }

    @Says(of = 10, words = "EYES of a PERSON are SHUT (is), or open")
    void eyesOfADismissedOne() {
        WakeOrder x = city(LATE_KING);
        x.dismiss(0);
        due(x.eyes(0, true), 0);
        due(x.eyes(0, true), 1);
        due(x.told(6), 1);
    }

    // ---- hand

    @Says(of = 11, words = "A JOB is HANDED to a PERSON: who had it. UNKNOWN.")
    void handTheFirstAndTheLast() {
        WakeOrder x = city(FULL_CITY);
        due(x.hand(0, 5), 0);
        due(x.hand(7, 0), 1);
        due(x.hand(7, 0), 0);
        due(x.hand(0, 0), 5);
        due(x.told(11), 4);
    }

    @Says(of = 11, words = "who had it. UNKNOWN.")
    void handUnknown() {
        WakeOrder x = city(LATE_KING);
        for (int none : NOBODY) {
            due(x.hand(none, 0), UNKNOWN);
            due(x.hand(0, none), UNKNOWN);
            due(x.hand(none, none), UNKNOWN);
        }
        due(x.job(0, 0), 1);
        due(x.told(11), 0);
        due(x.hand(3, 3), 3);
        // eight jobs, one person
        x = city("c10;p0;" + "j0 1 9;".repeat(8));
        due(x.hand(7, 1), UNKNOWN);
        due(x.hand(8, 0), UNKNOWN);
        due(x.hand(7, 0), 0);
    }

    @Says(of = 11, words = "one twice, where two are asked")
    void handAsksOneOfEach() {
        // a person and a job of the same number are not one twice
        WakeOrder x = city(LATE_KING);
        due(x.hand(2, 2), 3);
        due(x.hand(2, 2), 2);
    }

    @Says(of = {7, 11}, words = "A JOB is HANDED to a PERSON")
    void handToADismissedOne() {
        WakeOrder x = city(LATE_KING);
        x.dismiss(0);
        due(x.hand(3, 0), 3);
        due(x.job(3, 0), 0);
        dones(x, 20, 25, 70, NONE);
    }

    // ---- dismiss

    @Says(of = 12, words = "DISMISSED: how many are left. UNKNOWN, NOT: he is.")
    void dismissAll() {
        WakeOrder x = city(FULL_CITY);
        int[] row = {3, 0, 5, 1, 4, 2};
        for (int k = 0; k < 6; k++) {
            due(x.dismiss(row[k]), 5 - k);
            due(x.dismiss(row[k]), NOT);
        }
        due(x.told(5), 63);
        due(x.order(0), NONE);
        due(x.told(11), 6);
        for (int k = 5; k >= 0; k--) {
            x.undo();
            due(x.person(row[k], 1) == NONE ? 0 : 1, 1);
        }
        order(x, 0, 1, 2, 3, 4, 5);
    }

    @Says(of = 12, words = "how many are left. UNKNOWN")
    void dismissUnknown() {
        WakeOrder x = city(LATE_KING);
        for (int p : NOBODY) {
            due(x.dismiss(p), UNKNOWN);
        }
        due(x.told(5), 0);
        due(x.told(11), 0);
        due(x.dismiss(3), 3);
    }

    // ---- wake

    @Says(of = 13, words = "W of a PERSON becomes w (0 .. 999): what it was.")
    void wakeFrom0To999() {
        WakeOrder x = city(LATE_KING);
        due(x.wake(0, 0), 50);
        ups(x, 0, 10, 20, 30);
        due(x.wake(0, 999), 0);
        ups(x, NONE, NONE, NONE, NONE);
        due(x.wake(3, 999), 30);
        due(x.person(3, 0), 999);
        due(x.wake(0, 999), 999);
        due(x.told(11), 4);
    }

    @Says(of = 13, words = "W of a PERSON becomes w (0 .. 999): what it was. UNKNOWN, OUTSIDE.")
    void wakeOutside() {
        WakeOrder x = city(LATE_KING);
        for (int w : new int[] {-1, 1000, LEAST, GREATEST}) {
            due(x.wake(0, w), OUTSIDE);
            due(x.wake(4, w), UNKNOWN);
        }
        for (int p : NOBODY) {
            due(x.wake(p, 0), UNKNOWN);
        }
        due(x.person(0, 0), 50);
        due(x.told(11), 0);
    }

    @Says(of = {6, 13}, words = "wakes by himself at MINUTE W, 0 .. 999; none at M or later")
    void wakeAtMOrLater() {
        WakeOrder x = city(LATE_KING);
        due(x.wake(3, 199), 30);
        ups(x, 50, 50, 50, 199);
        due(x.wake(3, 200), 199);
        ups(x, 50, 50, 50, NONE);
        due(x.wake(3, 201), 200);
        ups(x, 50, 50, 50, NONE);
    }

    @Says(of = 13, words = "W of a PERSON becomes w (0 .. 999): what it was.")
    void wakeADismissedOne() {
        WakeOrder x = city(LATE_KING);
        x.dismiss(2);
        due(x.wake(2, 7), 20);
        due(x.person(2, 0), 7);
        due(x.person(2, 3), NONE);
    }

    // ---- drift

    @Says(of = 14, words = "n MORNINGS (1 .. 40) BY DRAWS: MORNINGS. OUTSIDE, NOT: no CITY")
    void driftFrom1To40() {
        WakeOrder x = city(LATE_KING);
        for (int n : new int[] {0, -1, 41, LEAST, GREATEST}) {
            due(x.drift(n), OUTSIDE);
        }
        due(x.person(0, 0), 50);
        due(x.seed(0), 0);
        due(x.drift(1), 1);
        due(x.drift(40), 41);
        due(x.told(11), 2);
    }

    @Says(of = 14, words = "OUTSIDE, NOT: no CITY")
    void driftWithoutACity() {
        WakeOrder x = new WakeOrder();
        due(x.drift(1), NOT);
        due(x.drift(40), NOT);
        due(x.drift(0), OUTSIDE);
        due(x.drift(41), OUTSIDE);
        due(load(x, "c10;x"), -11);
        due(x.drift(1), NOT);
        due(load(x, "c10;"), 0);
        due(x.drift(1), 1);
        due(load(x, " "), 0);
        due(x.drift(1), NOT);
        due(x.told(4), 0);
    }

    @Says(of = 14, words = "FULL: MORNINGS are above 9000 as it is called (n may pass that)")
    void driftAt9000() {
        WakeOrder x = atMorning(9000);
        due(x.told(4), 9000);
        due(x.drift(41), OUTSIDE);
        due(x.drift(40), 9040);
        due(x.drift(1), FULL);
        due(x.drift(40), FULL);
        due(x.drift(41), OUTSIDE);
        due(x.drift(0), OUTSIDE);
        due(x.told(4), 9040);
    }

    @Says(of = 14, words = "FULL: MORNINGS are above 9000 as it is called (n may pass that)")
    void driftAt9001() {
        WakeOrder x = atMorning(9001);
        due(x.told(4), 9001);
        due(x.drift(1), FULL);
        due(x.undo(), 19);
        due(x.told(4), 9000);
        due(x.drift(1), 9001);
        due(x.drift(1), FULL);
    }

    @Says(of = 14, words = "in each each PERSON, by number, has a DRAW of M for his W from then on")
    void drawsByNumber() {
        WakeOrder x = city("c300;p1;p2;p3;");
        x.rank(2, 0);
        x.dismiss(1);
        x.seed(4);
        due(x.drift(1), 1);
        due(x.person(0, 0), 17);
        due(x.person(1, 0), 166);
        due(x.person(2, 0), 291);
        due(x.drift(1), 2);
        due(x.person(0, 0), 111);
        due(x.person(1, 0), 107);
        due(x.person(2, 0), 296);
        due(x.seed(4), 294681710);
        // two mornings at once are the same
        due(x.drift(2), 4);
        due(x.person(0, 0), 111);
        due(x.person(2, 0), 296);
    }

    @Says(of = 14, words = "has a DRAW of M for his W from then on")
    void drawsOfM() {
        WakeOrder x = city("c10;p1;p2;p3;");
        x.seed(2147483647);
        x.drift(1);
        due(x.person(0, 0), 9);
        due(x.person(1, 0), 9);
        due(x.person(2, 0), 2);
        x = city("c999;p1;p2;p3;");
        x.seed(2147483647);
        x.drift(1);
        due(x.person(0, 0), 944);
        due(x.person(1, 0), 413);
        due(x.person(2, 0), 871);
    }

    @Says(of = {14, 27}, words = "(0 at first: each DRAW it becomes it times 1103515245 and 12345, left over by 2 to the 31")
    void seedIsLeftOver() {
        int[] seeds = {0, 1, 1073741824, 2147483647};
        int[] then = {12345, 1103527590, 1073754169, 1043980748};
        for (int k = 0; k < seeds.length; k++) {
            WakeOrder x = city("c999;p1;");
            x.seed(seeds[k]);
            x.drift(1);
            due(x.seed(0), then[k]);
            due(x.person(0, 0), then[k] / 65536 % 999);
        }
    }

    @Says(of = 14, words = "the DRAW of n is it / 65536, left over by n")
    void theFirstDrawOfAll() {
        WakeOrder x = city("c999;p1;p2;p3;p4;p5;p6;");
        x.drift(1);
        int[] draws = {0, 489, 997, 139, 501, 943};
        for (int p = 0; p < 6; p++) {
            due(x.person(p, 0), draws[p]);
        }
    }

    @Says(of = 14, words = "in each each PERSON, by number")
    void driftOfNobodyDrawsNothing() {
        WakeOrder x = city("c10;");
        x.seed(5);
        due(x.drift(40), 40);
        due(x.seed(5), 5);
    }

    // ---- undo

    @Says(of = 15, words = "The latest is undone: how many more can be. NOT: none.")
    void undoNone() {
        WakeOrder x = new WakeOrder();
        due(x.undo(), NOT);
        load(x, LATE_KING);
        due(x.undo(), NOT);
        x.wake(0, 1);
        due(x.undo(), 0);
        due(x.undo(), NOT);
        due(x.person(0, 0), 50);
    }

    @Says(of = {5, 15}, words = "(20 at most are kept, the oldest are lost)")
    void undo20() {
        WakeOrder x = city(LATE_KING);
        for (int w = 1; w <= 20; w++) {
            x.wake(0, w);
            due(x.told(11), w);
        }
        for (int left = 19; left >= 0; left--) {
            due(x.undo(), left);
            due(x.person(0, 0), left == 0 ? 50 : left);
        }
        due(x.undo(), NOT);
    }

    @Says(of = {5, 15}, words = "(20 at most are kept, the oldest are lost)")
    void undo21LosesTheOldest() {
        WakeOrder x = city(LATE_KING);
        for (int w = 1; w <= 21; w++) {
            x.wake(0, w);
        }
        due(x.told(11), 20);
        for (int left = 19; left >= 0; left--) {
            due(x.undo(), left);
            due(x.person(0, 0), left + 1);
        }
        due(x.undo(), NOT);
        due(x.person(0, 0), 1);
    }

    @Says(of = 15, words = "(20 at most are kept, the oldest are lost)")
    void undoGoesOnAfterManyLost() {
        WakeOrder x = city(LATE_KING);
        for (int w = 1; w <= 50; w++) {
            x.wake(0, w);
        }
        due(x.undo(), 19);
        due(x.undo(), 18);
        x.wake(0, 100);
        due(x.told(11), 19);
        x.eyes(0, true);
        x.eyes(1, true);
        due(x.told(11), 20);
        for (int left = 19; left >= 0; left--) {
            due(x.undo(), left);
        }
        due(x.undo(), NOT);
        due(x.person(0, 0), 31);
        due(x.told(6), 0);
    }

    @Says(of = 15, words = "the latest of rank(), eyes(), hand(), dismiss(), wake(), drift() that was not refused")
    void undoEachKind() {
        WakeOrder x = city(LATE_KING);
        x.rank(3, 0);
        due(x.undo(), 0);
        order(x, 0, 1, 2, 3);
        x.eyes(3, true);
        due(x.undo(), 0);
        due(x.told(6), 0);
        x.hand(0, 2);
        due(x.undo(), 0);
        due(x.job(0, 0), 1);
        x.rank(2, 0);
        x.dismiss(2);
        due(x.undo(), 1);
        order(x, 2, 0, 1, 3);
        x.wake(0, 7);
        due(x.undo(), 1);
        due(x.person(0, 0), 50);
        x.drift(2);
        due(x.undo(), 1);
        due(x.told(4), 0);
        due(x.person(0, 0), 50);
        due(x.person(3, 0), 30);
    }

    @Says(of = 15, words = "the latest of rank(), eyes(), hand(), dismiss(), wake(), drift() that was not refused")
    void otherCallsAreNotUndone() {
        WakeOrder x = city(LATE_KING);
        x.wake(0, 7);
        x.feed('c');
        x.see(0, 1);
        x.write(0, 1);
        x.seed(3);
        x.raise(15, 99, 0);
        x.leastHarm(0, 0);
        x.bread(0);
        x.free(0);
        x.orders(NONE);
        x.lookNext();
        x.judge();
        due(x.told(11), 1);
        due(x.undo(), 0);
        due(x.person(0, 0), 50);
        due(x.told(9), 1);
        due(x.told(10), 1);
        due(x.told(3), 1);
        x.tear();
        due(x.undo(), NOT);
        due(x.seed(0), 3);
    }

    @Says(of = 15, words = "that was not refused")
    void refusedCallsAreNotUndone() {
        WakeOrder x = city(LATE_KING);
        x.dismiss(3);
        x.rank(3, 0);
        x.rank(0, 3);
        x.rank(4, 0);
        x.eyes(4, true);
        x.hand(4, 0);
        x.hand(0, 4);
        x.dismiss(3);
        x.dismiss(4);
        x.wake(0, 1000);
        x.wake(4, 0);
        x.drift(0);
        x.drift(41);
        due(x.told(11), 1);
        due(x.undo(), 0);
        due(x.told(5), 0);
    }

    @Says(of = 15, words = "MORNINGS are as ahead of it; THE SEED stays")
    void theSeedStays() {
        WakeOrder x = city("c300;p1;p2;p3;");
        x.seed(4);
        x.drift(1);
        due(x.undo(), 0);
        due(x.told(4), 0);
        due(x.person(0, 0), 1);
        // the next draws go on behind the first three
        x.drift(1);
        due(x.person(0, 0), 111);
        due(x.seed(0), 294681710);
    }
}
