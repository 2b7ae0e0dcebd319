/** Edges of see, orders, lookNext, write, tear, judge. */
public final class WindowsEdgesTest extends Edges {
    public static void main(String[] args) throws Exception {
        new WindowsEdgesTest().runAll();
    }

    // ---- see

    @Says(of = 21, words = "Seen in WINDOWS: p was UP earlier than q: how much. UNKNOWN, FULL (6).")
    void seeSix() {
        WakeOrder x = city(FULL_CITY);
        // the same may be seen again
        for (int n = 1; n <= 6; n++) {
            due(x.see(0, 5), n);
        }
        due(x.see(0, 5), FULL);
        due(x.see(5, 0), FULL);
        due(x.told(9), 6);
        // what was refused does not count: nothing speaks against 0 ahead of 5
        due(x.orders(NONE) > 0 ? 1 : 0, 1);
        due(x.tear(), 6);
        due(x.see(5, 0), 1);
    }

    @Says(of = 21, words = "one twice, where two are asked")
    void seeOneTwice() {
        WakeOrder x = city(FULL_CITY);
        for (int p = 0; p < 6; p++) {
            due(x.see(p, p), UNKNOWN);
        }
        due(x.told(9), 0);
        due(x.see(0, 1), 1);
        due(x.see(5, 4), 2);
    }

    @Says(of = 21, words = "p was UP earlier than q: how much. UNKNOWN")
    void seeUnknown() {
        WakeOrder x = city(LATE_KING);
        for (int p : new int[] {-1, 4, 5, 6, LEAST, GREATEST}) {
            due(x.see(p, 0), UNKNOWN);
            due(x.see(0, p), UNKNOWN);
            due(x.see(p, p), UNKNOWN);
        }
        due(x.told(9), 0);
        due(x.see(3, 0), 1);
        due(x.see(0, 3), 2);
    }

    @Says(of = {21, 22}, words = "(who was never, perhaps; one who is DISMISSED when that is asked is never)")
    void seeADismissedOne() {
        WakeOrder x = city("c200;p50;p10;p20;");
        x.dismiss(0);
        due(x.see(1, 0), 1);
        due(x.orders(NONE), 2);
        due(x.see(0, 1), 2);
        due(x.orders(NONE), 0);
        // as when it is asked: now he is there again
        x.undo();
        x.tear();
        x.see(1, 0);
        due(x.orders(NONE), 3);
        x.dismiss(0);
        due(x.orders(NONE), 2);
        x.dismiss(1);
        due(x.orders(NONE), 0);
    }

    // ---- orders

    @Says(of = 22, words = "ORDERS: p = NONE how many, else SURE; NONE. UNKNOWN.")
    void ordersUnknown() {
        WakeOrder x = city(LATE_KING);
        for (int p : new int[] {-2, 4, 5, 6, LEAST, GREATEST}) {
            due(x.orders(p), UNKNOWN);
        }
        due(x.orders(-1), 24);
        due(x.orders(0), NONE);
        due(x.orders(3), NONE);
        due(new WakeOrder().orders(0), UNKNOWN);
    }

    @Says(of = 22, words = "ORDERS of all that are not DISMISSED, by which all that is seen is so")
    void ordersOfOneToSix() {
        WakeOrder x = city(FULL_CITY);
        int many = 720;
        for (int left = 6; left >= 1; left--) {
            due(x.orders(NONE), many);
            x.dismiss(left - 1);
            many /= left;
        }
    }

    @Says(of = 22, words = "how many (of nobody one, if nothing is seen, else none)")
    void ordersOfNobody() {
        due(new WakeOrder().orders(NONE), 1);
        due(city("c10;").orders(NONE), 1);
        WakeOrder x = city("c10;p1;p2;");
        x.see(0, 1);
        x.dismiss(0);
        due(x.orders(NONE), 0);
        x.dismiss(1);
        due(x.orders(NONE), 0);
        due(x.orders(0), NONE);
        x.tear();
        due(x.orders(NONE), 1);
        due(x.orders(0), NONE);
        due(x.see(1, 0), 1);
        due(x.orders(NONE), 0);
    }

    @Says(of = 22, words = "the place of a PERSON, if it is the same in all (SURE); NONE")
    void ordersOfOne() {
        WakeOrder x = city("c10;p1;p2;");
        due(x.orders(1), NONE);
        x.dismiss(0);
        due(x.orders(1), 0);
        due(x.orders(0), NONE);
        due(x.orders(NONE), 1);
    }

    @Says(of = 22, words = "if it is the same in all (SURE); NONE")
    void ordersSure() {
        WakeOrder x = city("c200;p50;p10;p20;");
        x.see(1, 0);
        // 1 2 0, 1 0 2, 2 1 0: 1 is not last, 0 not first
        due(x.orders(NONE), 3);
        for (int p = 0; p < 3; p++) {
            due(x.orders(p), NONE);
        }
        x.see(2, 0);
        due(x.orders(NONE), 2);
        due(x.orders(0), 2);
        due(x.orders(1), NONE);
        due(x.orders(2), NONE);
        x.see(1, 2);
        due(x.orders(NONE), 1);
        due(x.orders(0), 2);
        due(x.orders(1), 0);
        due(x.orders(2), 1);
        x.see(0, 1);
        due(x.orders(NONE), 0);
        for (int p = 0; p < 3; p++) {
            due(x.orders(p), NONE);
        }
    }

    @Says(of = 22, words = "one PERSON was UP at an earlier MINUTE than another one (who was never, perhaps")
    void ordersOfLikeMinutes() {
        // at the same minute is not earlier
        WakeOrder x = city("c200;p50;p50;");
        x.see(0, 1);
        due(x.orders(NONE), 0);
        x.tear();
        x.see(1, 0);
        due(x.orders(NONE), 0);
        x.wake(1, 49);
        due(x.orders(NONE), 1);
        due(x.orders(1), 0);
    }

    @Says(of = 22, words = "one PERSON was UP at an earlier MINUTE than another one (who was never, perhaps")
    void ordersWithOneWhoWasNever() {
        WakeOrder x = city("c200;p199;p200;");
        x.see(0, 1);
        due(x.orders(NONE), 1);
        due(x.orders(0), 0);
        x.see(1, 0);
        due(x.orders(NONE), 0);
        // never is not earlier than never
        x.tear();
        x.wake(0, 200);
        x.see(0, 1);
        due(x.orders(NONE), 0);
    }

    @Says(of = 22, words = "(EYES as when that is asked)")
    void ordersWithEyesAsWhenAsked() {
        WakeOrder x = city("c200;p50;p300;p20;");
        x.see(0, 1);
        due(x.orders(NONE), 3);
        x.eyes(1, true);
        due(x.orders(NONE), 6);
        x.see(2, 0);
        due(x.orders(NONE), 3);
        x.eyes(0, true);
        due(x.orders(NONE), 6);
        x.eyes(1, false);
        // now 1 may not be ahead of 2
        due(x.orders(NONE), 3);
    }

    // ---- look next

    @Says(of = 23, words = "LOOK NEXT; NONE.")
    void lookNextOfFew() {
        due(new WakeOrder().lookNext(), NONE);
        due(city("c10;").lookNext(), NONE);
        due(city("c10;p1;").lookNext(), NONE);
        due(city("c10;p1;p2;").lookNext(), 1);
        due(city("c10;p1;p1;").lookNext(), NONE);
        due(allDismissed("c10;p1;p2;").lookNext(), NONE);
    }

    @Says(of = 23, words = "NONE: none parts them")
    void lookNextWhenNoneParts() {
        WakeOrder x = city("c200;p10;p20;p50;");
        x.see(0, 1);
        x.see(1, 2);
        due(x.orders(NONE), 1);
        due(x.lookNext(), NONE);
        x.see(2, 0);
        due(x.orders(NONE), 0);
        due(x.lookNext(), NONE);
        // with eyes shut all orders are alike
        x.tear();
        for (int p = 0; p < 3; p++) {
            x.eyes(p, true);
        }
        due(x.orders(NONE), 6);
        due(x.lookNext(), NONE);
    }

    @Says(of = 23, words = "the pair (10 times p and q, p below q) that would part them best")
    void lookNextTheFirstAndTheLastPair() {
        WakeOrder x = city("c100;p10;p20;p0;p0;p0;p0;");
        for (int p = 2; p < 6; p++) {
            x.eyes(p, true);
        }
        // 0 is up at 10 or 20, 1 at 20: the others are up at 0 always
        due(x.lookNext(), 1);
        x = city("c100;p0;p0;p0;p0;p10;p20;");
        for (int p = 0; p < 4; p++) {
            x.eyes(p, true);
        }
        due(x.lookNext(), 45);
    }

    @Says(of = 23, words = "by whether p was UP earlier than q: the greatest part that is alike is least; of like ones the least")
    void lookNextOfLikeOnesTheLeast() {
        // 0 1 2: 10 20 50; 0 2 1: 10 50 50; 1 0 2: 20 20 50; 1 2 0: 50 20 50; 2 ..: 50 50 50
        // earlier: 0 than 1 in 2 of 6, 0 than 2 in 3 of 6, 1 than 2 in 3 of 6
        WakeOrder x = city("c200;p10;p20;p50;");
        due(x.lookNext(), 2);
        // left: 0 1 2, 0 2 1, 1 0 2: 0 than 1 in two, 1 than 2 in two
        x.see(0, 2);
        due(x.lookNext(), 1);
    }

    @Says(of = 23, words = "(who was never, perhaps; one who is DISMISSED when that is asked is never)")
    void lookNextAtADismissedOne() {
        // whether 0 or 1 was earlier than 2, who is dismissed, is whether he was up at all
        WakeOrder x = city("c100;p100;p10;p5;");
        x.dismiss(2);
        due(x.orders(NONE), 2);
        due(x.lookNext(), 12);
        x.dismiss(1);
        due(x.lookNext(), NONE);
    }

    // ---- write

    @Says(of = 24, words = "An entry behind THE BOOK (NONE .. 999): how many.")
    void writeFromNoneTo999() {
        WakeOrder x = city(LATE_KING);
        for (int minute : new int[] {-2, 1000, UNKNOWN, LEAST, GREATEST}) {
            due(x.write(0, minute), OUTSIDE);
            due(x.write(4, minute), UNKNOWN);
        }
        due(x.told(10), 0);
        due(x.write(0, NONE), 1);
        due(x.write(0, 0), 2);
        due(x.write(3, 999), 3);
        due(x.told(10), 3);
    }

    @Says(of = 24, words = "how many. UNKNOWN, OUTSIDE, FULL (15).")
    void writeFifteen() {
        WakeOrder x = city(LATE_KING);
        for (int n = 1; n <= 15; n++) {
            due(x.write(0, 60), n);
        }
        due(x.write(0, 60), FULL);
        due(x.write(0, 61), FULL);
        due(x.told(10), 15);
        due(x.judge(), NONE);
        due(x.tear(), 15);
        due(x.write(0, 61), 1);
    }

    @Says(of = 24, words = "UNKNOWN, OUTSIDE, FULL (15)")
    void writeUnknown() {
        WakeOrder x = city(LATE_KING);
        for (int j : new int[] {-1, 4, 8, 9, LEAST, GREATEST}) {
            due(x.write(j, 0), UNKNOWN);
            due(x.write(j, -2), UNKNOWN);
        }
        due(x.write(3, 0), 1);
        x = city(FULL_CITY);
        due(x.write(8, 0), UNKNOWN);
        due(x.write(7, 0), 1);
    }

    // ---- tear

    @Says(of = 25, words = "Nothing seen in WINDOWS, THE BOOK is empty: how much both had.")
    void tearNothingOrAll() {
        WakeOrder x = city(LATE_KING);
        due(x.tear(), 0);
        for (int n = 0; n < 20; n++) {
            x.see(0, 1);
            x.write(0, 1);
        }
        due(x.tear(), 21);
        due(x.told(9), 0);
        due(x.told(10), 0);
        due(x.orders(NONE), 24);
        due(x.judge(), NONE);
        due(x.tear(), 0);
    }

    @Says(of = 25, words = "how much both had")
    void tearOneOfBoth() {
        WakeOrder x = city(LATE_KING);
        x.see(0, 1);
        due(x.tear(), 1);
        x.write(0, 1);
        x.write(0, 1);
        due(x.tear(), 2);
        due(x.undo(), NOT);
    }

    // ---- judge

    @Says(of = 26, words = "WRONG; NONE.")
    void judgeAnEmptyBook() {
        due(new WakeOrder().judge(), NONE);
        WakeOrder x = city(LATE_KING);
        due(x.judge(), NONE);
        x.write(0, 61);
        due(x.judge(), 0);
        x.tear();
        due(x.judge(), NONE);
    }

    @Says(of = 26, words = "WRONG: the first that is otherwise now; NONE.")
    void judgeTheFirstAndTheLast() {
        WakeOrder x = city(LATE_KING);
        for (int n = 1; n <= 14; n++) {
            x.write(0, 60);
            due(x.judge(), NONE);
        }
        x.write(3, 113);
        due(x.judge(), 14);
        // as it is now
        x.wake(0, 49);
        due(x.judge(), 0);
        x.undo();
        due(x.judge(), 14);
    }

    @Says(of = {24, 26}, words = "(15 at most) tells MINUTES at which JOBS are done (NONE: never)")
    void judgeNever() {
        WakeOrder x = city(LATE_KING);
        x.write(0, NONE);
        due(x.judge(), 0);
        x.dismiss(1);
        due(x.judge(), NONE);
        // M is no minute at which it is done
        x.write(0, 200);
        due(x.judge(), 1);
    }

    @Says(of = 26, words = "the first that is otherwise now")
    void judgeTheLastMinute() {
        WakeOrder x = city("c100;p0;p98;j0 99 9;j1 1 9;");
        x.write(0, 99);
        x.write(1, 99);
        due(x.judge(), NONE);
        x.wake(1, 99);
        due(x.judge(), 1);
        x.tear();
        x.write(1, NONE);
        due(x.judge(), NONE);
    }
}
