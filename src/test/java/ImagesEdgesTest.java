/** Edges of seed, keep, goBack. */
public final class ImagesEdgesTest extends Edges {
    public static void main(String[] args) throws Exception {
        new ImagesEdgesTest().runAll();
    }

    // ---- seed

    @Says(of = 27, words = "THE SEED becomes v (0 .. 2147483647): what it was. OUTSIDE.")
    void seedFrom0To2147483647() {
        WakeOrder x = new WakeOrder();
        due(x.seed(-1), OUTSIDE);
        due(x.seed(LEAST), OUTSIDE);
        due(x.seed(0), 0);
        due(x.seed(2147483647), 0);
        due(x.seed(-1), OUTSIDE);
        due(x.seed(LEAST), OUTSIDE);
        due(x.seed(1), 2147483647);
        due(x.seed(0), 1);
        due(x.seed(0), 0);
    }

    @Says(of = {1, 27}, words = "BY DRAWS: THE SEED (0 at first")
    void seedIs0AtFirst() {
        due(new WakeOrder().seed(5), 0);
        due(city(LATE_KING).seed(5), 0);
    }

    // ---- keep

    @Says(of = 28, words = "IMAGE i becomes what is so (nothing can be undone then): 1. UNKNOWN.")
    void keep0And1() {
        WakeOrder x = city(LATE_KING);
        for (int i : new int[] {-1, 2, LEAST, GREATEST}) {
            due(x.keep(i), UNKNOWN);
        }
        due(x.goBack(0), NOT);
        due(x.goBack(1), NOT);
        x.wake(0, 1);
        due(x.keep(0), 1);
        x.wake(0, 2);
        due(x.keep(1), 1);
        x.wake(0, 3);
        due(x.goBack(0), 1);
        due(x.person(0, 0), 1);
        due(x.goBack(1), 1);
        due(x.person(0, 0), 2);
    }

    @Says(of = 28, words = "(nothing can be undone then): 1. UNKNOWN.")
    void keepForgetsWhatCanBeUndone() {
        WakeOrder x = city(LATE_KING);
        x.wake(0, 1);
        x.wake(0, 2);
        due(x.keep(2), UNKNOWN);
        due(x.keep(-1), UNKNOWN);
        due(x.told(11), 2);
        due(x.keep(0), 1);
        due(x.told(11), 0);
        due(x.undo(), NOT);
        due(x.person(0, 0), 2);
        x.wake(0, 3);
        due(x.undo(), 0);
        due(x.person(0, 0), 2);
    }

    @Says(of = 28, words = "IMAGE i becomes what is so")
    void keepAgain() {
        WakeOrder x = city(LATE_KING);
        x.keep(1);
        x.rank(3, 0);
        x.keep(1);
        x.rank(2, 0);
        x.goBack(1);
        order(x, 3, 0, 1, 2);
    }

    @Says(of = 28, words = "IMAGE i becomes what is so")
    void keepWithoutACity() {
        WakeOrder x = new WakeOrder();
        x.seed(9);
        due(x.keep(0), 1);
        due(x.keep(1), 1);
        x.seed(8);
        due(x.goBack(1), 1);
        due(x.seed(0), 9);
        due(x.told(0), 0);
        due(x.drift(1), NOT);
    }

    @Says(of = 28, words = "IMAGES 0, 1 keep these, THE SEED.")
    void imagesKeepWhatCanBeUndone() {
        WakeOrder x = city(LATE_KING);
        x.rank(3, 0);
        x.eyes(1, true);
        x.hand(0, 2);
        x.dismiss(0);
        x.drift(3);
        x.wake(2, 77);
        x.seed(9);
        x.keep(0);
        // what comes later does not change the image
        x.rank(3, 2);
        x.eyes(1, false);
        x.hand(0, 1);
        x.dismiss(2);
        x.drift(1);
        x.wake(2, 7);
        due(x.seed(10) == 9 ? 1 : 0, 0);
        x.goBack(0);
        order(x, 3, 1, 2);
        due(x.told(6), 2);
        due(x.told(5), 1);
        due(x.job(0, 0), 2);
        due(x.told(4), 3);
        due(x.person(2, 0), 77);
        due(x.seed(0), 9);
    }

    // ---- go back

    @Says(of = 29, words = "What is so becomes IMAGE i (nothing can be undone then): 1. UNKNOWN, NOT: it was not kept.")
    void goBack0And1() {
        WakeOrder x = city(LATE_KING);
        for (int i : new int[] {-1, 2, LEAST, GREATEST}) {
            due(x.goBack(i), UNKNOWN);
        }
        due(x.goBack(0), NOT);
        due(x.goBack(1), NOT);
        x.keep(1);
        due(x.goBack(0), NOT);
        due(x.goBack(1), 1);
        due(x.goBack(1), 1);
        x.keep(0);
        due(x.goBack(0), 1);
        due(x.goBack(2), UNKNOWN);
    }

    @Says(of = 29, words = "(nothing can be undone then): 1. UNKNOWN, NOT")
    void goBackForgetsWhatCanBeUndone() {
        WakeOrder x = city(LATE_KING);
        x.keep(0);
        x.wake(0, 1);
        x.wake(0, 2);
        due(x.goBack(1), NOT);
        due(x.goBack(2), UNKNOWN);
        due(x.told(11), 2);
        due(x.goBack(0), 1);
        due(x.told(11), 0);
        due(x.undo(), NOT);
        due(x.person(0, 0), 50);
    }

    @Says(of = 29, words = "What is so becomes IMAGE i")
    void goBackTwice() {
        WakeOrder x = city(LATE_KING);
        x.wake(0, 7);
        x.rank(0, 3);
        x.keep(0);
        for (int n = 0; n < 3; n++) {
            x.wake(0, 8);
            x.rank(0, n);
            x.dismiss(1);
            due(x.goBack(0), 1);
            due(x.person(0, 0), 7);
            order(x, 1, 2, 3, 0);
        }
    }

    @Says(of = 29, words = "IMAGES 0, 1 keep these, THE SEED.")
    void windowsBookAndTextStay() {
        WakeOrder x = city(LATE_KING);
        x.see(0, 1);
        x.keep(0);
        x.see(1, 2);
        x.write(0, 1);
        feed(x, "c1");
        x.goBack(0);
        due(x.told(9), 2);
        due(x.told(10), 1);
        due(x.told(3), 2);
    }

    @Says(of = {3, 29}, words = "IMAGES, what could be undone are gone")
    void imagesOfAnotherCity() {
        WakeOrder x = city(LATE_KING);
        x.keep(0);
        x.keep(1);
        load(x, "c10;x");
        due(x.goBack(0), 1);
        due(x.goBack(1), 1);
        load(x, "c10;");
        due(x.goBack(0), NOT);
        due(x.goBack(1), NOT);
    }
}
