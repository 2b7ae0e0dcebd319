/** Edges of raise, leastHarm, bread, free, sleeps. */
public final class TriedEdgesTest extends Edges {
    public static void main(String[] args) throws Exception {
        new TriedEdgesTest().runAll();
    }

    private void raised(WakeOrder x, int jobs, int t, int many, int... row) {
        due(x.raise(jobs, t, NONE), many);
        for (int i = 0; i < row.length; i++) {
            due(x.raise(jobs, t, i), row[i]);
        }
        due(x.raise(jobs, t, row.length), NONE);
    }

    private void harm(WakeOrder x, int p, int place, int much) {
        due(x.leastHarm(p, 0), place);
        due(x.leastHarm(p, 1), much);
    }

    private void freed(WakeOrder x, int many, int set) {
        due(x.free(0), many);
        due(x.free(1), set);
    }

    // ---- raise

    @Says(of = 16, words = "(a PERSON, JOB, IMAGE that there is not; one twice, where two are asked; bits of such)")
    void raiseBitsOfJobsThereAreNot() {
        WakeOrder x = city(LATE_KING);
        due(x.raise(8, 114, NONE), 0);
        due(x.raise(15, 114, NONE), 0);
        for (int jobs : new int[] {16, 17, 31, 256, -1, -16, LEAST, LEAST + 1, GREATEST, 1 << 30}) {
            due(x.raise(jobs, 114, NONE), UNKNOWN);
            due(x.raise(jobs, 114, 0), UNKNOWN);
            due(x.raise(jobs, 1000, 0), UNKNOWN);
        }
        x = city(FULL_CITY);
        due(x.raise(128, 999, NONE), 0);
        due(x.raise(255, 999, NONE), 0);
        due(x.raise(256, 999, NONE), UNKNOWN);
        due(x.raise(511, 999, NONE), UNKNOWN);
        x = city("c10;p1;");
        due(x.raise(0, 0, NONE), 0);
        due(x.raise(1, 0, NONE), UNKNOWN);
    }

    @Says(of = 16, words = "are done by MINUTE t (0 .. 999; at t or before)")
    void raiseFrom0To999() {
        WakeOrder x = city(LATE_KING);
        for (int t : new int[] {-1, 1000, LEAST, GREATEST}) {
            due(x.raise(0, t, NONE), OUTSIDE);
            due(x.raise(15, t, 0), OUTSIDE);
            due(x.raise(15, t, -2), OUTSIDE);
        }
        due(x.raise(0, 0, NONE), 0);
        due(x.raise(0, 999, NONE), 0);
        due(x.raise(15, 0, NONE), NONE);
        due(x.raise(15, 999, NONE), 0);
    }

    @Says(of = 16, words = "at t or before")
    void raiseAtTOrBefore() {
        WakeOrder x = city("c10;p0;j0 1 9;");
        due(x.raise(1, 0, NONE), NONE);
        due(x.raise(1, 0, 0), NONE);
        due(x.raise(1, 1, NONE), 0);
        due(x.raise(1, 2, NONE), 0);
        x = city("c999;p0;j0 9 9;");
        x.wake(0, 989);
        due(x.raise(1, 997, NONE), NONE);
        due(x.raise(1, 998, NONE), 0);
        due(x.raise(1, 999, NONE), 0);
    }

    @Says(of = 16, words = "so that all of a SET of JOBS are done by MINUTE t")
    void raiseForWhatIsNeverDone() {
        WakeOrder x = city("c10;p9;p0;j0 1 9;j1 1 9;");
        due(x.raise(1, 999, NONE), NONE);
        due(x.raise(1, 999, 0), NONE);
        due(x.raise(3, 999, NONE), NONE);
        raised(x, 2, 1, 1, 1, 0);
        x.dismiss(1);
        due(x.raise(2, 999, NONE), NONE);
        raised(x, 0, 0, 0, 0);
    }

    @Says(of = 16, words = "RAISE: i = NONE how many, else the i-th; NONE (i below -1, too).")
    void raiseEachI() {
        WakeOrder x = city(LATE_KING);
        raised(x, 15, 114, 0, 0, 1, 2, 3);
        raised(x, 15, 113, 1, 1, 0, 2, 3);
        raised(x, 15, 79, 3, 1, 2, 3, 0);
        for (int i : new int[] {-2, -3, 4, 5, 6, LEAST, GREATEST}) {
            due(x.raise(15, 79, i), NONE);
        }
        due(x.raise(15, 78, NONE), NONE);
        due(x.raise(15, 78, 0), NONE);
    }

    @Says(of = 16, words = "(of those that are not DISMISSED)")
    void raiseWhenNobodyIsLeft() {
        WakeOrder x = allDismissed(LATE_KING);
        raised(x, 0, 0, 0);
        due(x.raise(0, 0, 0), NONE);
        due(x.raise(1, 999, NONE), NONE);
        due(x.raise(16, 999, NONE), UNKNOWN);
        x = city("c10;");
        raised(x, 0, 999, 0);
    }

    @Says(of = 16, words = "fewest are nearer the head than now; of like ones the first (the lesser PERSON nearest the head, then on)")
    void raiseTheFewestAheadOfTheFirst() {
        // 1 2 0 would be ahead of these, but raises two; 2 0 1 and 2 1 0 raise one
        WakeOrder x = city("c100;p50;p10;p10;j0 1 9;j2 1 9;");
        raised(x, 2, 11, 1, 2, 0, 1);
        due(x.raise(2, 10, NONE), NONE);
        x.rank(2, 1);
        // now 1 2 0 raises 1 alone, as do 2 0 1 and 2 1 0
        raised(x, 2, 11, 1, 1, 2, 0);
    }

    @Says(of = 16, words = "fewest are nearer the head than now")
    void raiseNobodyIsTheOrderNow() {
        WakeOrder x = city(LATE_KING);
        x.rank(3, 0);
        x.rank(0, 3);
        raised(x, 0, 0, 0, 3, 1, 2, 0);
        x.dismiss(1);
        raised(x, 0, 0, 0, 3, 2, 0);
    }

    @Says(of = 16, words = "RAISE so that all of a SET of JOBS are done")
    void raiseSix() {
        // the last one, who wakes first, must go ahead of all
        WakeOrder x = city("c100;p50;p50;p50;p50;p50;p1;j5 9 9;");
        raised(x, 1, 59, 0, 0, 1, 2, 3, 4, 5);
        raised(x, 1, 10, 1, 5, 0, 1, 2, 3, 4);
        due(x.raise(1, 9, NONE), NONE);
    }

    // ---- least harm

    @Says(of = 17, words = "LEAST HARM: what = 0 place, 1 how much; NONE. UNKNOWN, OUTSIDE.")
    void leastHarmOutside() {
        WakeOrder x = city(LATE_KING);
        for (int what : new int[] {-1, 2, LEAST, GREATEST}) {
            due(x.leastHarm(0, what), OUTSIDE);
            due(x.leastHarm(4, what), UNKNOWN);
        }
        for (int p : new int[] {-1, 4, 6, LEAST, GREATEST}) {
            due(x.leastHarm(p, 0), UNKNOWN);
            due(x.leastHarm(p, 1), UNKNOWN);
        }
        harm(x, 3, 0, 150);
        harm(x, 0, 3, 60);
    }

    @Says(of = 17, words = "place; how much; NONE: DISMISSED")
    void leastHarmOfADismissedOne() {
        WakeOrder x = city(LATE_KING);
        x.dismiss(1);
        harm(x, 1, NONE, NONE);
        due(x.leastHarm(1, 2), OUTSIDE);
        harm(x, 0, 2, 50);
        x = allDismissed(LATE_KING);
        harm(x, 0, NONE, NONE);
    }

    @Says(of = 17, words = "UP of all others in THE ORDER, added up (M for never), is least")
    void leastHarmMForNever() {
        WakeOrder x = city("c200;p200;p10;p20;p30;");
        // 0 himself is never up, but is not added
        harm(x, 0, 3, 60);
        harm(x, 1, 0, 600);
        x.wake(3, 999);
        harm(x, 0, 2, 230);
        harm(x, 3, 0, 600);
        x.wake(0, 199);
        harm(x, 3, 3, 597);
    }

    @Says(of = 17, words = "of like ones the least place")
    void leastHarmOfLikeOnes() {
        WakeOrder x = city(FULL_CITY);
        harm(x, 0, 0, 15);
        harm(x, 5, 5, 10);
        x.eyes(5, true);
        harm(x, 5, 0, 10);
        x = city("c100;p5;p5;p5;");
        harm(x, 2, 0, 10);
    }

    @Says(of = 17, words = "the place (0 the head) at which a PERSON, all others staying in their order")
    void leastHarmOfOneAlone() {
        WakeOrder x = city("c100;p5;p6;");
        x.dismiss(0);
        harm(x, 1, 0, 0);
        order(x, 1);
    }

    @Says(of = 17, words = "all others staying in their order")
    void leastHarmInTheMiddle() {
        // 1 does a job for which 0 waits; at the head he holds up 2, behind it 0 is never up
        WakeOrder x = city("c100;p1;p50;p2;j1 5 9;w0 0;");
        // head: 0 55, 2 55; second: all never; third: 0 never, 2 never
        harm(x, 1, 0, 110);
        x.rank(2, 0);
        // 1 2 0: 50 55; 2 1 0: 2 55; 2 0 1: 2 100
        harm(x, 1, 1, 57);
        order(x, 2, 0, 1);
    }

    // ---- bread

    @Says(of = 18, words = "(a JOB that is not done counts as done at M)")
    void breadOfWhatIsNotDone() {
        WakeOrder x = city(LATE_KING);
        x.wake(0, 189);
        due(x.job(0, 3), 199);
        due(x.bread(0), 179);
        x.wake(0, 190);
        due(x.job(0, 3), NONE);
        due(x.bread(0), 180);
        x.wake(0, 999);
        due(x.bread(0), 180);
        due(x.bread(3), 121);
        // never, and never with eyes shut
        x.wake(1, 999);
        due(x.bread(0), 0);
        due(x.bread(3), 0);
    }

    @Says(of = 18, words = "by how many MINUTES it would be done sooner, were EYES of all SHUT")
    void breadFrom0ToTheLastJob() {
        WakeOrder x = city(LATE_KING);
        due(x.bread(0), 40);
        due(x.bread(1), 40);
        due(x.bread(2), 35);
        due(x.bread(3), 35);
        due(x.told(6), 0);
    }

    @Says(of = 18, words = "BREAD. UNKNOWN.")
    void breadUnknown() {
        WakeOrder x = city(LATE_KING);
        for (int j : new int[] {-1, 4, 8, LEAST, GREATEST}) {
            due(x.bread(j), UNKNOWN);
        }
        due(city(FULL_CITY).bread(7), 0);
        due(city(FULL_CITY).bread(8), UNKNOWN);
        due(new WakeOrder().bread(0), UNKNOWN);
    }

    @Says(of = 18, words = "were EYES of all SHUT")
    void breadWhoeverHoldsItUp() {
        for (int p = 0; p < 5; p++) {
            WakeOrder x = city("c100;p1;p1;p1;p1;p1;p1;j5 1 9;");
            x.wake(p, 50);
            due(x.bread(0), 49);
            x.eyes(p, true);
            due(x.bread(0), 0);
        }
    }

    @Says(of = 18, words = "were EYES of all SHUT")
    void breadWhenAllAreShut() {
        WakeOrder x = city(LATE_KING);
        for (int p = 0; p < 4; p++) {
            x.eyes(p, true);
        }
        for (int j = 0; j < 4; j++) {
            due(x.bread(j), 0);
        }
        due(x.told(6), 15);
    }

    @Says(of = 18, words = "were EYES of all SHUT")
    void breadOfADismissedOne() {
        WakeOrder x = city(LATE_KING);
        x.dismiss(1);
        due(x.bread(0), 0);
        x.hand(0, 2);
        due(x.bread(0), 30);
        due(allDismissed(LATE_KING).bread(0), 0);
    }

    // ---- free

    @Says(of = 19, words = "FREE: what = 0 how many, 1 the SET. OUTSIDE.")
    void freeOutside() {
        WakeOrder x = city(RING);
        for (int what : new int[] {-1, 2, LEAST, GREATEST}) {
            due(x.free(what), OUTSIDE);
            due(new WakeOrder().free(what), OUTSIDE);
        }
        freed(x, 1, 2);
        due(x.told(5), 0);
    }

    @Says(of = 19, words = "so that nobody who is left is STUCK")
    void freeNobodyOrAll() {
        freed(city(FULL_CITY), 0, 0);
        freed(city("c10;p10;p10;p10;p10;p10;p10;"), 6, 63);
        freed(city("c10;p9;p10;p10;p10;p10;p10;"), 5, 62);
        freed(city("c10;p10;"), 1, 1);
        freed(city("c10;"), 0, 0);
        freed(allDismissed("c10;p10;p10;"), 0, 0);
    }

    @Says(of = 19, words = "the fewest PERSONS to be DISMISSED besides those that are (a SET of these new ones alone, of like ones the least)")
    void freeOfLikeOnesTheLeast() {
        // 2 waits for a job of 1, whom 0 holds up too long: without 0 it is done, without 2 nobody waits
        WakeOrder x = city("c50;p40;p1;p1;j1 20 9;w2 0;");
        freed(x, 1, 1);
        x.rank(0, 2);
        freed(x, 0, 0);
        x.undo();
        x.dismiss(0);
        freed(x, 0, 0);
    }

    @Says(of = 19, words = "the fewest PERSONS to be DISMISSED")
    void freeTheFewestAheadOfTheLeast() {
        // without 0 and 1 (the set 3) all were up, but without 3 (the set 8) one is enough
        freed(city("c50;p40;p40;p1;p1;j2 20 9;w3 0;"), 1, 8);
    }

    @Says(of = 19, words = "besides those that are (a SET of these new ones alone")
    void freeNewOnesAlone() {
        WakeOrder x = city("c50;p1;p60;p2;p70;p3;");
        freed(x, 2, 10);
        x.dismiss(3);
        freed(x, 1, 2);
        x.dismiss(0);
        freed(x, 1, 2);
        x.dismiss(1);
        freed(x, 0, 0);
    }

    @Says(of = 19, words = "so that nobody who is left is STUCK")
    void freeOneMakesAnotherOneStuck() {
        // without 0 his job is never done, for which 2 waits
        freed(city("c50;p60;p1;p1;j0 1 9;w2 0;"), 2, 5);
        WakeOrder x = city("c50;p1;p60;p1;");
        x.eyes(1, true);
        freed(x, 1, 2);
    }

    // ---- sleeps

    @Says(of = 20, words = "odds that one does not wake by himself in n MINUTES (0 .. 60)")
    void sleepsFrom0To60Minutes() {
        WakeOrder x = new WakeOrder();
        for (int n : new int[] {-1, 61, LEAST, GREATEST}) {
            due(x.sleeps(n, 0), OUTSIDE);
            due(x.sleeps(n, 50), OUTSIDE);
        }
        due(x.sleeps(0, 50), 1000000000);
        due(x.sleeps(1, 50), 500000000);
        due(x.sleeps(59, 1), 552683455);
        due(x.sleeps(60, 1), 547156620);
    }

    @Says(of = 20, words = "SLEEPS (q 0 .. 100). OUTSIDE.")
    void sleepsFrom0To100OfAHundred() {
        WakeOrder x = new WakeOrder();
        for (int q : new int[] {-1, 101, LEAST, GREATEST}) {
            due(x.sleeps(0, q), OUTSIDE);
            due(x.sleeps(1, q), OUTSIDE);
        }
        due(x.sleeps(0, 0), 1000000000);
        due(x.sleeps(60, 0), 1000000000);
        due(x.sleeps(0, 100), 1000000000);
        due(x.sleeps(1, 100), 0);
        due(x.sleeps(60, 100), 0);
        due(x.sleeps(1, 1), 990000000);
        due(x.sleeps(1, 99), 10000000);
    }

    @Says(of = 20, words = "a BILLION times (100 less q) / 100 each (cut)")
    void sleepsAreCutEach() {
        WakeOrder x = new WakeOrder();
        // cut once at the end these were 547156642 and 1
        due(x.sleeps(60, 1), 547156620);
        due(x.sleeps(60, 29), 0);
        due(x.sleeps(4, 99), 10);
        due(x.sleeps(5, 99), 0);
        due(x.sleeps(29, 50), 1);
        due(x.sleeps(30, 50), 0);
    }
}
