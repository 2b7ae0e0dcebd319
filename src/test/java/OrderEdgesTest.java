/** Edges of a new object, told, person, job, order, and of who is up and what is done when. */
public final class OrderEdgesTest extends Edges {
    public static void main(String[] args) throws Exception {
        new OrderEdgesTest().runAll();
    }

    private static void shutAll(WakeOrder x) {
        for (int p = 0; p < 6; p++) {
            x.eyes(p, true);
        }
    }

    // ---- a new object

    @Says(of = 1, words = "No CITY.")
    void newObjectTellsNothing() {
        WakeOrder x = new WakeOrder();
        told(x, 0, 0, 0, 0, 0, 0, 0, 0, 0, 0, 0, 0);
        due(x.fault(), NONE);
        due(x.order(0), NONE);
        due(x.seed(0), 0);
    }

    @Says(of = 1, words = "No CITY.")
    void newObjectHasNobody() {
        WakeOrder x = new WakeOrder();
        due(x.person(0, 0), UNKNOWN);
        due(x.job(0, 0), UNKNOWN);
        due(x.rank(0, 0), UNKNOWN);
        due(x.eyes(0, true), UNKNOWN);
        due(x.hand(0, 0), UNKNOWN);
        due(x.dismiss(0), UNKNOWN);
        due(x.wake(0, 0), UNKNOWN);
        due(x.leastHarm(0, 0), UNKNOWN);
        due(x.bread(0), UNKNOWN);
        due(x.see(0, 1), UNKNOWN);
        due(x.orders(0), UNKNOWN);
        due(x.write(0, 0), UNKNOWN);
        due(x.raise(1, 0, NONE), UNKNOWN);
    }

    @Says(of = 1, words = "No CITY.")
    void newObjectTries() {
        WakeOrder x = new WakeOrder();
        due(x.drift(1), NOT);
        due(x.undo(), NOT);
        due(x.raise(0, 0, NONE), 0);
        due(x.raise(0, 0, 0), NONE);
        due(x.free(0), 0);
        due(x.free(1), 0);
        due(x.orders(NONE), 1);
        due(x.lookNext(), NONE);
        due(x.tear(), 0);
        due(x.judge(), NONE);
        due(x.goBack(0), NOT);
        due(x.goBack(1), NOT);
        due(x.keep(0), 1);
        due(x.goBack(0), 1);
        due(x.goBack(1), NOT);
    }

    @Says(of = {1, 2, 16, 22}, words = "An object is used for at most 512 calls after it has been made")
    void theLast512thCall() {
        WakeOrder x = city(LATE_KING);
        for (int call = LATE_KING.length() + 2; call < 512; call++) {
            if (call % 2 == 0) {
                due(x.orders(NONE), 24);
            } else {
                due(x.wake(0, 50), 50);
            }
        }
        due(x.raise(15, 113, NONE), 1);
    }

    // ---- told

    @Says(of = 5, words = "0 M, 1 PERSONS, 2 JOBS, 3 letters of THE TEXT")
    void toldFrom0() {
        WakeOrder x = city(RING);
        due(x.told(-1), OUTSIDE);
        due(x.told(LEAST), OUTSIDE);
        due(x.told(0), 100);
        due(x.told(1), 3);
        due(x.told(2), 3);
        due(x.told(3), 0);
    }

    @Says(of = 5, words = "11 how many can be undone. OUTSIDE.")
    void toldTo11() {
        WakeOrder x = city(RING);
        due(x.told(12), OUTSIDE);
        due(x.told(GREATEST), OUTSIDE);
        due(x.told(11), 0);
        x.wake(0, 1);
        due(x.told(11), 1);
    }

    @Says(of = 5, words = "5 DISMISSED ones, 6 whose EYES are SHUT, 7 STUCK, 8 UNDONE JOBS (SETS)")
    void setsOfNobodyAndOfAll() {
        WakeOrder x = city(FULL_CITY);
        told(x, 999, 6, 8, 0, 0, 0, 0, 0, 0);
        x.wake(0, 999);
        told(x, 999, 6, 8, 0, 0, 0, 0, 63, 255);
        shutAll(x);
        due(x.told(6), 63);
        due(x.told(7), 1);
        due(x.told(8), 65);
        x = allDismissed(FULL_CITY);
        told(x, 999, 6, 8, 0, 0, 63, 0, 0, 255);
    }

    @Says(of = 5, words = "STUCK: PERSONS in THE ORDER that are never UP (a SET); UNDONE JOBS (a SET).")
    void dismissedOnesAreNotStuck() {
        WakeOrder x = city("c50;p1;p50;p2;j1 1 9;j2 1 9;");
        due(x.told(7), 6);
        due(x.told(8), 3);
        x.dismiss(1);
        due(x.told(7), 0);
        due(x.told(8), 1);
        due(x.told(5), 2);
    }

    @Says(of = 5, words = "6 whose EYES are SHUT")
    void shutEyesOfADismissedOne() {
        WakeOrder x = city(RING);
        x.eyes(0, true);
        x.dismiss(0);
        x.dismiss(2);
        x.eyes(2, true);
        due(x.told(6), 5);
        due(x.told(5), 5);
    }

    @Says(of = 5, words = "3 letters of THE TEXT")
    void lettersOfTheText() {
        WakeOrder x = city(RING);
        due(x.told(3), 0);
        x.feed(0);
        due(x.told(3), 1);
        for (int n = 2; n <= 221; n++) {
            x.feed('p');
        }
        due(x.told(3), 220);
    }

    @Says(of = 5, words = "9 what was seen in WINDOWS, 10 entries of THE BOOK")
    void seenAndWritten() {
        WakeOrder x = city(RING);
        for (int n = 1; n <= 20; n++) {
            x.see(0, 1);
            x.write(0, 1);
            due(x.told(9), Math.min(n, 6));
            due(x.told(10), Math.min(n, 15));
        }
        x.see(0, 0);
        x.write(0, 1000);
        x.tear();
        due(x.told(9), 0);
        due(x.told(10), 0);
    }

    @Says(of = {5, 14}, words = "MORNINGS are counted.")
    void morningsAreCounted() {
        WakeOrder x = city(RING);
        due(x.told(4), 0);
        x.drift(1);
        due(x.told(4), 1);
        x.drift(40);
        due(x.told(4), 41);
        x.drift(41);
        due(x.told(4), 41);
        x.undo();
        due(x.told(4), 1);
    }

    // ---- person

    @Says(of = 6, words = "Of a PERSON: what = 0 W now")
    void personsFrom0ToTheLast() {
        WakeOrder x = city(FULL_CITY);
        for (int p = 0; p < 6; p++) {
            due(x.person(p, 0), p);
        }
        for (int p : new int[] {-1, 6, 7, 32, LEAST, GREATEST}) {
            due(x.person(p, 0), UNKNOWN);
        }
        x = city(RING);
        due(x.person(2, 0), 5);
        due(x.person(3, 0), UNKNOWN);
    }

    @Says(of = 6, words = "4 how many JOBS he has. UNKNOWN, OUTSIDE.")
    void personWhatFrom0To4() {
        WakeOrder x = city(RING);
        due(x.person(0, 0), 10);
        due(x.person(0, 4), 1);
        for (int what : new int[] {-1, 5, LEAST, GREATEST}) {
            due(x.person(0, what), OUTSIDE);
            due(x.person(3, what), UNKNOWN);
        }
    }

    @Says(of = 6, words = "1 place in THE ORDER (NONE: DISMISSED)")
    void placeOfTheFirstAndTheLast() {
        WakeOrder x = city(FULL_CITY);
        due(x.person(0, 1), 0);
        due(x.person(5, 1), 5);
        x.dismiss(0);
        due(x.person(0, 1), NONE);
        due(x.person(5, 1), 4);
        x.undo();
        due(x.person(0, 1), 0);
    }

    @Says(of = 6, words = "2 the JOB for which he waits (NONE)")
    void waitsForTheFirstAndTheLast() {
        WakeOrder x = city(FULL_CITY + "w1 0;w2 7;");
        due(x.person(0, 2), NONE);
        due(x.person(1, 2), 0);
        due(x.person(2, 2), 7);
        x.dismiss(2);
        due(x.person(2, 2), 7);
    }

    @Says(of = 6, words = "3 when he is UP (NONE; DISMISSED, too)")
    void dismissedOnesAreNotUp() {
        WakeOrder x = city(LATE_KING);
        x.dismiss(1);
        ups(x, 50, NONE, 50, 50);
        x.eyes(1, true);
        ups(x, 50, NONE, 50, 50);
    }

    @Says(of = 6, words = "4 how many JOBS he has")
    void jobsFrom0To8() {
        WakeOrder x = city(FULL_CITY);
        due(x.person(5, 4), 1);
        due(x.person(0, 4), 2);
        for (int j = 0; j < 8; j++) {
            x.hand(j, 3);
        }
        due(x.person(3, 4), 8);
        due(x.person(0, 4), 0);
        x.dismiss(3);
        due(x.person(3, 4), 8);
    }

    // ---- job

    @Says(of = 7, words = "Of a JOB: what = 0 who does it, 1 D, 2 A (NONE), 3 when it is done (NONE). UNKNOWN, OUTSIDE.")
    void jobsFrom0ToTheLast() {
        WakeOrder x = city(FULL_CITY);
        due(x.job(0, 0), 0);
        due(x.job(7, 0), 1);
        for (int j : new int[] {-1, 8, 9, LEAST, GREATEST}) {
            due(x.job(j, 0), UNKNOWN);
        }
        x = city(RING);
        due(x.job(2, 0), 2);
        due(x.job(3, 0), UNKNOWN);
    }

    @Says(of = 7, words = "3 when it is done (NONE). UNKNOWN, OUTSIDE.")
    void jobWhatFrom0To3() {
        WakeOrder x = city(RING);
        due(x.job(0, 0), 0);
        due(x.job(0, 3), 15);
        for (int what : new int[] {-1, 4, LEAST, GREATEST}) {
            due(x.job(0, what), OUTSIDE);
            due(x.job(3, what), UNKNOWN);
        }
    }

    @Says(of = 7, words = "2 A (NONE)")
    void behindNoneOrTheFirst() {
        WakeOrder x = city(RING);
        due(x.job(0, 2), NONE);
        due(x.job(1, 2), 0);
        due(x.job(2, 2), NONE);
    }

    // ---- order

    @Says(of = 8, words = "The i-th PERSON of THE ORDER; NONE (i below 0, too).")
    void orderFrom0ToTheLast() {
        WakeOrder x = city(FULL_CITY);
        order(x, 0, 1, 2, 3, 4, 5);
        for (int i : new int[] {-1, -2, 6, 7, LEAST, GREATEST}) {
            due(x.order(i), NONE);
        }
        x.dismiss(5);
        due(x.order(4), 4);
        due(x.order(5), NONE);
    }

    @Says(of = 8, words = "NONE (i below 0, too)")
    void orderOfNobody() {
        due(allDismissed(RING).order(0), NONE);
        due(city("c10;").order(0), NONE);
    }

    @Says(of = 8, words = "(as told, at first); DISMISSED ones are not in it")
    void orderAsToldAtFirst() {
        WakeOrder x = city("c100;p30;p20;p10;");
        order(x, 0, 1, 2);
        x.dismiss(1);
        order(x, 0, 2);
        x.dismiss(0);
        order(x, 2);
        x.dismiss(2);
        order(x);
    }

    @Says(of = {5, 6, 7, 8, 9, 12, 13, 14, 16, 17, 18, 19, 22, 23}, words = "DISMISSED ones are not in it")
    void nobodyInTheOrder() {
        WakeOrder x = allDismissed(LATE_KING);
        told(x, 200, 4, 4, 0, 0, 15, 0, 0, 15, 0, 0, 4);
        order(x);
        ups(x, NONE, NONE, NONE, NONE);
        dones(x, NONE, NONE, NONE, NONE);
        due(x.rank(0, 0), OUTSIDE);
        due(x.dismiss(0), NOT);
        due(x.raise(0, 0, NONE), 0);
        due(x.raise(1, 999, NONE), NONE);
        due(x.leastHarm(0, 0), NONE);
        due(x.bread(0), 0);
        due(x.free(0), 0);
        due(x.free(1), 0);
        due(x.orders(NONE), 1);
        due(x.orders(0), NONE);
        due(x.lookNext(), NONE);
        due(x.eyes(3, true), 0);
        due(x.hand(0, 3), 1);
        due(x.wake(3, 5), 30);
        due(x.drift(1), 1);
        due(x.told(11), 8);
        due(x.keep(0), 1);
        due(x.goBack(0), 1);
        told(x, 200, 4, 4, 0, 1, 15, 8, 0, 15, 0, 0, 0);
    }

    @Says(of = {3, 5, 6, 7}, words = "What has a number has it from 0 on, as it comes.")
    void numbersAsTheyCome() {
        WakeOrder x = city("c100;p5;j0 1 9;w0 0;p6;j1 2 0;j0 3 1;p7;");
        told(x, 100, 3, 3);
        due(x.person(1, 0), 6);
        due(x.person(2, 0), 7);
        due(x.job(1, 0), 1);
        due(x.job(1, 2), 0);
        due(x.job(2, 0), 0);
        due(x.job(2, 1), 3);
        due(x.person(0, 2), 0);
    }

    // ---- who is up

    @Says(of = 6, words = "What would be UP or done at MINUTE M or later, or never, is NONE.")
    void upAtTheLastMinute() {
        ups(city("c100;p0;"), 0);
        ups(city("c100;p99;"), 99);
        ups(city("c100;p100;"), NONE);
        ups(city("c100;p101;"), NONE);
        ups(city("c100;p999;"), NONE);
    }

    @Says(of = 6, words = "One WAKES at W, or when the JOB for which he waits is done, if that is later")
    void wakesWhenTheLaterIs() {
        WakeOrder x = city("c100;p10;p30;j0 20 9;w1 0;");
        ups(x, 10, 30);
        x.wake(1, 29);
        ups(x, 10, 30);
        x.wake(1, 31);
        ups(x, 10, 31);
        x.wake(1, 0);
        ups(x, 10, 30);
    }

    @Says(of = 6, words = "(a JOB that is never done: never)")
    void wakesNeverByAJobNeverDone() {
        WakeOrder x = city("c100;p79;p30;j0 20 9;w1 0;");
        ups(x, 79, 99);
        x.wake(0, 80);
        ups(x, 80, NONE);
        x.wake(0, 10);
        x.dismiss(0);
        ups(x, NONE, NONE);
        x.hand(0, 1);
        ups(x, NONE, NONE);
    }

    @Says(of = 6, words = "He is UP when he WAKES, but not before all above him in THE ORDER are UP.")
    void notBeforeThoseAbove() {
        ups(city("c100;p50;p49;"), 50, 50);
        ups(city("c100;p50;p50;"), 50, 50);
        ups(city("c100;p50;p51;"), 50, 51);
        ups(city("c100;p60;p10;p20;"), 60, 60, 60);
        ups(city("c100;p10;p60;p20;"), 10, 60, 60);
        ups(city("c100;p100;p10;p20;"), NONE, NONE, NONE);
        ups(city("c100;p10;p100;p20;"), 10, NONE, NONE);
        ups(city("c100;p10;p20;p100;"), 10, 20, NONE);
    }

    @Says(of = {6, 10}, words = "One whose EYES are SHUT is not awake by law: he holds up nobody below him")
    void shutEyesHoldUpNobody() {
        WakeOrder x = city("c100;p10;p60;p20;");
        x.eyes(1, true);
        ups(x, 10, 60, 20);
        x.wake(1, 100);
        ups(x, 10, NONE, 20);
        due(x.told(7), 2);
        // but the one above both still does
        x.wake(0, 30);
        ups(x, 30, NONE, 30);
        x.eyes(0, true);
        ups(x, 30, NONE, 20);
    }

    @Says(of = {6, 10}, words = "and works from when he WAKES; he counts as UP then")
    void shutEyesAreUpWhenHeWakes() {
        WakeOrder x = city("c100;p50;p10;j0 5 9;j1 5 9;");
        ups(x, 50, 50);
        dones(x, 55, 55);
        x.eyes(1, true);
        ups(x, 50, 10);
        dones(x, 55, 15);
        x.wake(0, 100);
        ups(x, NONE, 10);
        dones(x, NONE, 15);
        // he must wake all the same
        x = city("c100;p50;p10;j0 5 9;w1 0;");
        x.eyes(1, true);
        ups(x, 50, 55);
    }

    @Says(of = {6, 12}, words = "DISMISSED ones are not in it")
    void dismissedOnesHoldUpNobody() {
        WakeOrder x = city("c100;p100;p10;");
        ups(x, NONE, NONE);
        x.dismiss(0);
        ups(x, NONE, 10);
    }

    // ---- what is done

    @Says(of = 7, words = "What would be UP or done at MINUTE M or later, or never, is NONE.")
    void doneAtTheLastMinute() {
        dones(city("c100;p0;j0 1 9;"), 1);
        dones(city("c100;p98;j0 1 9;"), 99);
        dones(city("c100;p99;j0 1 9;"), NONE);
        dones(city("c100;p0;j0 99 9;"), 99);
        dones(city("c100;p1;j0 99 9;"), NONE);
        dones(city("c999;p900;j0 98 9;"), 998);
        dones(city("c999;p900;j0 99 9;"), NONE);
        dones(city("c10;p9;j0 99 9;"), NONE);
    }

    @Says(of = 7, words = "each from when he is UP, the one ahead of it is done, and JOB A is done; it is done D MINUTES later")
    void fromTheLatestOfThree() {
        // from when 1 is up
        dones(city("c100;p0;p50;j0 10 9;j1 5 0;"), 10, 55);
        dones(city("c100;p0;p10;j0 10 9;j1 5 0;"), 10, 15);
        // from when job A is done
        dones(city("c100;p0;p9;j0 10 9;j1 5 0;"), 10, 15);
        // from when the one ahead of it is done
        dones(city("c100;p0;p10;j0 10 9;j1 5 9;j1 7 0;"), 10, 15, 22);
        dones(city("c100;p0;p5;j0 10 9;j1 5 9;j1 7 0;"), 10, 10, 17);
    }

    @Says(of = 7, words = "one does his JOBS one behind the other, the lesser first")
    void theLesserFirst() {
        dones(city("c100;p5;j0 1 9;j0 2 9;j0 3 9;"), 6, 8, 11);
        // job 2 might be done at once, but job 1 is the lesser
        WakeOrder x = city("c100;p0;p50;j1 10 9;j0 5 0;j0 1 9;");
        dones(x, 60, 65, 66);
        x.hand(1, 1);
        dones(x, 60, 65, 1);
    }

    @Says(of = {7, 11}, words = "each has somebody who does it (P at first, or to whom it was HANDED)")
    void whoDoesIt() {
        WakeOrder x = city("c100;p5;p7;j0 1 9;");
        due(x.job(0, 0), 0);
        dones(x, 6);
        x.hand(0, 1);
        due(x.job(0, 0), 1);
        dones(x, 8);
    }

    @Says(of = {7, 12}, words = "(A JOB of a DISMISSED one is never done.)")
    void jobsOfADismissedOne() {
        WakeOrder x = city("c100;p5;p7;j0 1 9;j1 1 0;j1 1 9;");
        dones(x, 6, 8, 9);
        x.dismiss(0);
        dones(x, NONE, NONE, NONE);
        due(x.told(8), 7);
        x.hand(0, 1);
        dones(x, 8, 9, 10);
        x.eyes(0, true);
        x.hand(0, 0);
        dones(x, NONE, NONE, NONE);
    }

    @Says(of = {6, 7}, words = "What waits for something that is never, is never.")
    void neverGoesOn() {
        // 1 is never up, so job 0 is never done, nor job 1 behind it, nor job 2 of the same one, nor is 2 up
        WakeOrder x = city("c100;p0;p100;p3;j1 1 9;j0 1 0;j0 1 9;w2 2;");
        x.eyes(1, true);
        ups(x, 0, NONE, NONE);
        dones(x, NONE, NONE, NONE);
        due(x.told(7), 6);
        due(x.told(8), 7);
        x.hand(1, 1);
        ups(x, 0, NONE, 3);
        dones(x, NONE, NONE, 1);
    }

    @Says(of = {6, 7}, words = "who waits for one another in a ring is never")
    void aRingOfOne() {
        WakeOrder x = city("c100;p1;p2;j0 1 9;w0 0;");
        ups(x, NONE, NONE);
        dones(x, NONE);
        x.eyes(0, true);
        ups(x, NONE, 2);
        dones(x, NONE);
        x.hand(0, 1);
        ups(x, 3, 2);
        dones(x, 3);
    }

    @Says(of = {6, 7}, words = "who waits for one another in a ring is never")
    void aRingByLaw() {
        WakeOrder x = city(RING);
        ups(x, 10, NONE, NONE);
        dones(x, 15, NONE, NONE);
        x.eyes(2, true);
        ups(x, 10, 22, 5);
        dones(x, 15, 22, 25);
        x.eyes(2, false);
        x.eyes(1, true);
        ups(x, 10, 22, 10);
        x.eyes(1, false);
        x.rank(1, 2);
        ups(x, 10, 22, 10);
    }

    @Says(of = {6, 7}, words = "who waits for one another in a ring is never")
    void aRingOfTwoByJobs() {
        WakeOrder x = city("c100;p1;p2;p3;j0 1 9;j1 1 9;w0 1;w1 0;");
        shutAll(x);
        ups(x, NONE, NONE, 3);
        dones(x, NONE, NONE);
        x.hand(0, 2);
        ups(x, 5, 4, 3);
        dones(x, 4, 5);
    }

    @Says(of = {6, 7}, words = "who waits for one another in a ring is never")
    void aRingByJobA() {
        // 1 waits for job 1 of 0, which is behind job 0 of 1
        WakeOrder x = city("c100;p1;p2;j1 1 9;j0 1 0;w1 1;");
        ups(x, 1, NONE);
        dones(x, NONE, NONE);
        x.hand(0, 0);
        ups(x, 1, 3);
        dones(x, 2, 3);
    }

    @Says(of = {6, 7}, words = "who waits for one another in a ring is never")
    void aRingByTheLesserJob() {
        // 1 waits for job 2 of 0, who first does job 1, which is behind job 0 of 1
        WakeOrder x = city("c100;p1;p2;p3;j1 1 9;j0 1 0;j0 1 9;w1 2;");
        ups(x, 1, NONE, NONE);
        dones(x, NONE, NONE, NONE);
        x.hand(1, 2);
        ups(x, 1, 2, 3);
        dones(x, 3, 4, 2);
    }

    @Says(of = {6, 7}, words = "(All these are the least MINUTES by which it all holds")
    void theLongestChain() {
        // each is woken by a job of the one below him
        WakeOrder x = city("c999;p0;p0;p0;p0;p0;p7;j5 1 9;j4 1 9;j3 1 9;j2 1 9;j1 1 9;j0 1 9;j0 1 9;j0 1 9;"
            + "w4 0;w3 1;w2 2;w1 3;w0 4;");
        due(x.told(7), 63);
        due(x.told(8), 255);
        shutAll(x);
        ups(x, 12, 11, 10, 9, 8, 7);
        dones(x, 8, 9, 10, 11, 12, 13, 14, 15);
        x.eyes(5, false);
        ups(x, 12, 11, 10, 9, 8, 7);
        // now the last one may not be up before the first, who waits for all of them
        x.eyes(0, false);
        due(x.told(7), 63);
        due(x.told(8), 255);
    }

    @Says(of = {6, 7}, words = "(All these are the least MINUTES by which it all holds")
    void aChainOfJobs() {
        WakeOrder x = city("c999;p0;p900;j0 99 9;j0 99 0;j0 99 1;j0 99 2;j0 99 3;j0 99 4;j0 99 5;j0 99 6;w1 7;");
        dones(x, 99, 198, 297, 396, 495, 594, 693, 792);
        ups(x, 0, 900);
        x.wake(0, 108);
        dones(x, 207, 306, 405, 504, 603, 702, 801, 900);
        x.wake(0, 206);
        ups(x, 206, 998);
        x.wake(0, 207);
        ups(x, 207, NONE);
        due(x.told(8), 128);
    }
}
