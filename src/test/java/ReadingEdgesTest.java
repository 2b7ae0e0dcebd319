/** Edges of feed, city, fault, and of the text that tells the city. */
public final class ReadingEdgesTest extends Edges {
    private static final String SIX = "p0;p1;p2;p3;p4;p5;";
    private static final String EIGHT_JOBS = "j0 1 9;".repeat(8);

    public static void main(String[] args) throws Exception {
        new ReadingEdgesTest().runAll();
    }

    private void reads(String text, int persons) {
        WakeOrder x = new WakeOrder();
        due(load(x, text), persons);
        due(x.fault(), NONE);
    }

    private void faulty(String text, int kind, int place) {
        WakeOrder x = new WakeOrder();
        due(load(x, text), -10 - kind);
        due(x.fault(), place);
        due(x.told(0), 0);
    }

    private static boolean isFigure(int letter) {
        return letter >= '0' && letter <= '9';
    }

    // ---- feed

    @Says(of = 2, words = "One letter (a number 0 .. 255)")
    void letterFrom0() {
        WakeOrder x = new WakeOrder();
        due(x.feed(-1), OUTSIDE);
        due(x.feed(LEAST), OUTSIDE);
        due(x.told(3), 0);
        due(x.feed(0), 1);
        due(x.city(), -11);
    }

    @Says(of = 2, words = "One letter (a number 0 .. 255)")
    void letterTo255() {
        WakeOrder x = new WakeOrder();
        due(x.feed(256), OUTSIDE);
        due(x.feed(GREATEST), OUTSIDE);
        // 256 * 2 + 'c' and the like are no letters either
        due(x.feed(512 + 'c'), OUTSIDE);
        due(x.told(3), 0);
        due(x.feed(255), 1);
        due(x.city(), -11);
    }

    @Says(of = {2, 3}, words = "THE CITY is told in a text (220 letters at most)")
    void text220() {
        WakeOrder x = feed(new WakeOrder(), "c10;p5;");
        for (int n = 8; n <= 219; n++) {
            due(x.feed(' '), n);
        }
        due(x.feed('p'), 220);
        due(x.feed('1'), FULL);
        due(x.feed(';'), FULL);
        due(x.told(3), 220);
        // what was refused is not read: the text ends behind 'p'
        due(x.city(), -11);
        due(x.fault(), 220);
        due(x.feed('c'), 1);
    }

    @Says(of = {2, 3}, words = "220 letters at most")
    void textOf220IsReadWhole() {
        String text = "c10;" + " ".repeat(213) + "p9;";
        due(text.length(), 220);
        reads(text, 1);
        WakeOrder x = feed(new WakeOrder(), text);
        due(x.feed('x'), FULL);
        due(x.city(), 1);
    }

    // ---- city

    @Says(of = 3, words = "(it is empty then, with a FAULT, too)")
    void textIsEmptyThen() {
        WakeOrder x = new WakeOrder();
        due(load(x, "c10;"), 0);
        due(x.told(3), 0);
        due(load(x, "c10;x"), -11);
        due(x.told(3), 0);
        due(load(x, "c20;p1;"), 1);
        due(x.told(0), 20);
    }

    @Says(of = 3, words = "MORNING 0; nothing seen in WINDOWS, no BOOK; IMAGES, what could be undone are gone; THE SEED stays")
    void newCityForgets() {
        WakeOrder x = city(RING);
        x.drift(3);
        x.keep(0);
        x.keep(1);
        x.eyes(1, true);
        x.dismiss(0);
        x.rank(2, 0);
        x.hand(0, 1);
        x.see(0, 1);
        x.write(0, 5);
        x.seed(77);
        due(load(x, RING), 3);
        told(x, 100, 3, 3, 0, 0, 0, 0, 6, 6, 0, 0, 0);
        order(x, 0, 1, 2);
        due(x.person(0, 0), 10);
        due(x.job(0, 0), 0);
        due(x.undo(), NOT);
        due(x.goBack(0), NOT);
        due(x.goBack(1), NOT);
        due(x.seed(0), 77);
    }

    @Says(of = 3, words = "-10 less the number of its FAULT (all else is as it was)")
    void faultyTextChangesNothingElse() {
        WakeOrder x = city(RING);
        x.drift(2);
        x.wake(0, 10);
        x.wake(1, 20);
        x.wake(2, 5);
        x.keep(1);
        x.wake(0, 11);
        x.rank(2, 0);
        x.see(0, 1);
        x.write(0, 5);
        x.seed(8);
        due(load(x, "c20;p1;p2;p3;p4;j0 1 9;w0 0;w0"), -14);
        told(x, 100, 3, 3, 0, 2, 0, 0, 0, 0, 1, 1, 2);
        order(x, 2, 0, 1);
        due(x.person(0, 0), 11);
        due(x.person(0, 2), NONE);
        due(x.job(0, 1), 5);
        due(x.seed(8), 8);
        due(x.undo(), 1);
        due(x.undo(), 0);
        due(x.person(0, 0), 10);
        due(x.goBack(0), NOT);
        due(x.goBack(1), 1);
    }

    @Says(of = {1, 3}, words = "An empty text (or one of blanks alone) has no FAULT: no CITY.")
    void emptyTextIsNoCity() {
        WakeOrder x = new WakeOrder();
        due(x.city(), 0);
        due(x.fault(), NONE);
        told(x, 0, 0, 0, 0, 0, 0, 0, 0, 0, 0, 0, 0);
        due(x.drift(1), NOT);
        due(x.person(0, 0), UNKNOWN);
    }

    @Says(of = {1, 3}, words = "An empty text (or one of blanks alone) has no FAULT: no CITY.")
    void blanksAloneAreNoCity() {
        for (int blanks : new int[] {1, 2, 220}) {
            WakeOrder x = new WakeOrder();
            due(load(x, " ".repeat(blanks)), 0);
            due(x.fault(), NONE);
            due(x.told(0), 0);
            due(x.drift(1), NOT);
        }
    }

    @Says(of = {1, 3}, words = "An empty text (or one of blanks alone) has no FAULT: no CITY.")
    void emptyTextTakesTheCityAway() {
        for (String text : new String[] {"", "   "}) {
            WakeOrder x = city(RING);
            x.keep(0);
            x.eyes(0, true);
            x.see(0, 1);
            x.write(0, 1);
            x.seed(5);
            due(load(x, text), 0);
            told(x, 0, 0, 0, 0, 0, 0, 0, 0, 0, 0, 0, 0);
            due(x.order(0), NONE);
            due(x.person(0, 0), UNKNOWN);
            due(x.job(0, 0), UNKNOWN);
            due(x.drift(1), NOT);
            due(x.undo(), NOT);
            due(x.goBack(0), NOT);
            due(x.seed(0), 5);
        }
    }

    @Says(of = 3, words = "how many PERSONS")
    void cityOfNobody() {
        WakeOrder x = new WakeOrder();
        due(load(x, "c10;"), 0);
        due(x.told(0), 10);
        due(x.drift(1), 1);
    }

    @Says(of = {3, 4}, words = "(a morning has M MINUTES, 10 .. 999; first, once)")
    void minutesOfTheMorning() {
        faulty("c0;", 2, 1);
        faulty("c9;", 2, 1);
        faulty("c009;", 2, 1);
        reads("c10;", 0);
        reads("c010;", 0);
        reads("c999;", 0);
        faulty("c1000;", 2, 1);
        due(city("c10;").told(0), 10);
        due(city("c010;").told(0), 10);
        due(city("c999;").told(0), 999);
    }

    @Says(of = {3, 4}, words = "first, once)")
    void anotherWordFirst() {
        faulty("p0;", 1, 0);
        faulty("j0 1 9;", 1, 0);
        faulty("w0 0;", 1, 0);
        faulty(" p0;c10;", 1, 1);
    }

    @Says(of = {3, 4}, words = "6 PERSONS at most, the first highest in RANK, then on: wakes by himself at MINUTE W, 0 .. 999")
    void wakesAt() {
        reads("c10;p0;", 1);
        reads("c10;p999;", 1);
        faulty("c10;p1000;", 2, 5);
        due(city("c10;p0;").person(0, 0), 0);
        due(city("c10;p999;").person(0, 0), 999);
        order(city("c10;p3;p2;p1;"), 0, 1, 2);
    }

    @Says(of = {3, 6}, words = "none at M or later")
    void wakesNotByHimselfAtMOrLater() {
        ups(city("c10;p9;"), 9);
        ups(city("c10;p10;"), NONE);
        ups(city("c10;p11;"), NONE);
        ups(city("c999;p998;"), 998);
        ups(city("c999;p999;"), NONE);
    }

    @Says(of = {3, 4}, words = "6 PERSONS at most")
    void sixPersons() {
        reads("c10;" + SIX, 6);
        faulty("c10;" + SIX + "p", 3, 22);
        faulty("c10;" + SIX + " p6;", 3, 23);
    }

    @Says(of = {3, 4}, words = "8 JOBS at most")
    void eightJobs() {
        reads("c10;p0;" + EIGHT_JOBS, 1);
        due(city("c10;p0;" + EIGHT_JOBS).told(2), 8);
        faulty("c10;p0;" + EIGHT_JOBS + "j", 3, 63);
        faulty("c10;p0;" + EIGHT_JOBS + " j0 1 9;", 3, 64);
    }

    @Says(of = {3, 4}, words = "takes D MINUTES, 1 .. 99")
    void jobTakes() {
        faulty("c10;p0;j0 0 9;", 2, 10);
        faulty("c10;p0;j0 000 9;", 2, 10);
        reads("c10;p0;j0 1 9;", 1);
        reads("c10;p0;j0 99 9;", 1);
        reads("c10;p0;j0 099 9;", 1);
        faulty("c10;p0;j0 100 9;", 2, 10);
        due(city("c10;p0;j0 1 9;").job(0, 1), 1);
        due(city("c10;p0;j0 99 9;").job(0, 1), 99);
    }

    @Says(of = {3, 4}, words = "by PERSON P told ahead")
    void jobOfOneToldAhead() {
        faulty("c10;j0 1 9;", 2, 5);
        reads("c10;p0;j0 1 9;", 1);
        faulty("c10;p0;j1 1 9;", 2, 8);
        faulty("c10;p0;j1 1 9;p0;", 2, 8);
        reads("c10;" + SIX + "j5 1 9;", 6);
        faulty("c10;" + SIX + "j6 1 9;", 2, 23);
    }

    @Says(of = {3, 4}, words = "behind JOB A told ahead, or 9: none")
    void jobBehindOneToldAhead() {
        faulty("c10;p0;j0 1 0;", 2, 12);
        faulty("c10;p0;j0 1 8;", 2, 12);
        faulty("c10;p0;j0 1 10;", 2, 12);
        reads("c10;p0;j0 1 9;", 1);
        reads("c10;p0;j0 1 009;", 1);
        reads("c10;p0;j0 1 9;j0 1 0;", 1);
        faulty("c10;p0;j0 1 9;j0 1 1;", 2, 19);
        String seven = "c10;p0;" + "j0 1 9;".repeat(7);
        reads(seven + "j0 1 6;", 1);
        faulty(seven + "j0 1 7;", 2, 61);
        faulty(seven + "j0 1 8;", 2, 61);
        reads(seven + "j0 1 9;", 1);
        due(city(seven + "j0 1 6;").job(7, 2), 6);
        due(city(seven + "j0 1 9;").job(7, 2), NONE);
    }

    @Says(of = {3, 4}, words = "(PERSON P, told ahead, does not wake till JOB J, told ahead, is done, too; each P once)")
    void waitsForAJobToldAhead() {
        faulty("c10;w0 0;", 2, 5);
        faulty("c10;p0;w0 0;", 2, 10);
        faulty("c10;p0;j0 1 9;w1 0;", 2, 15);
        reads("c10;p0;j0 1 9;w0 0;", 1);
        faulty("c10;p0;j0 1 9;w0 1;", 2, 17);
        // 9 is no JOB here
        faulty("c10;p0;j0 1 9;w0 9;", 2, 17);
        faulty("c10;p0;w0 0;j0 1 9;", 2, 10);
        reads("c10;p0;" + EIGHT_JOBS + "w0 7;", 1);
        faulty("c10;p0;" + EIGHT_JOBS + "w0 8;", 2, 66);
    }

    @Says(of = {3, 4}, words = "each P once")
    void eachWaitsOnce() {
        String all = "c10;" + SIX + "j0 1 9;w0 0;w1 0;w2 0;w3 0;w4 0;w5 0;";
        reads(all, 6);
        for (int p = 0; p < 6; p++) {
            faulty(all + "w" + p + " 0;", 4, all.length() + 1);
        }
    }

    // ---- numbers, blanks

    @Says(of = {3, 4}, words = "NUMBERS have one to three figures")
    void numbersOfOneToThreeFigures() {
        reads("c10;p1;", 1);
        reads("c10;p01;", 1);
        reads("c10;p001;", 1);
        faulty("c10;p0001;", 2, 5);
        faulty("c10;p;", 1, 5);
    }

    @Says(of = 4, words = "a NUMBER of four figures or more, or out of its bounds")
    void numbersOfManyFigures() {
        faulty("c0010;", 2, 1);
        faulty("c1000", 2, 1);
        // 2 to the 32 and 10; 2 to the 64 and 10
        faulty("c4294967306;", 2, 1);
        faulty("c18446744073709551626;", 2, 1);
        faulty("c" + "0".repeat(219), 2, 1);
        faulty("c10;p0;j0000 1 9;", 2, 8);
        faulty("c10;p0;j0 0001 9;", 2, 10);
        faulty("c10;p0;j0 1 0009;", 2, 12);
        faulty("c10;p0;j0 1 9;w0000 0;", 2, 15);
        faulty("c10;p0;j0 1 9;w0 0000;", 2, 17);
    }

    @Says(of = {3, 4}, words = "blanks (32) may stand anywhere but within NUMBERS")
    void blanksAnywhere() {
        reads("  c  10  ;  p  1  ;  j  0   1   9  ;  w  0   0  ;  ", 1);
        faulty("c1 0;", 2, 1);
        faulty("c10 0;", 1, 4);
        faulty("c10;p1 2;", 1, 7);
        for (int other : new int[] {0, 9, 10, 13, 31, 33, 160, 255}) {
            faulty("c10;" + (char) other, 1, 4);
            faulty("c" + (char) other + "10;", 1, 1);
            faulty("c10" + (char) other + ";", 1, 3);
        }
    }

    @Says(of = {3, 4}, words = "two NUMBERS side by side need one")
    void numbersNeedABlankBetween() {
        reads("c10;p1;j0 1 9;", 1);
        reads("c10;p1;j0  1  9;", 1);
        // 019 is one number
        faulty("c10;p1;j019;", 2, 8);
        faulty("c10;p1;j0 19;", 1, 12);
        faulty("c10;p1;j0 1 9;w00;", 1, 17);
    }

    @Says(of = 4, words = "a word is one letter")
    void wordsOfOneLetter() {
        faulty("cc10;", 1, 1);
        faulty("c10;pp1;", 1, 5);
        faulty("C10;", 1, 0);
        faulty("c10;P1;", 1, 4);
    }

    // ---- faults

    @Says(of = 4, words = "1 it cannot stand there (a letter that is no word, another word first than 'c')")
    void firstLetterOfTheText() {
        for (int letter = 0; letter <= 255; letter++) {
            if (letter == ' ') {
                reads(" ", 0);
            } else {
                faulty(String.valueOf((char) letter), 1, letter == 'c' ? 1 : 0);
            }
        }
    }

    @Says(of = 4, words = "a letter that is no word")
    void firstLetterOfAClause() {
        for (int letter = 0; letter <= 255; letter++) {
            String text = "c10;" + (char) letter;
            if (letter == ' ') {
                reads(text, 0);
            } else if (letter == 'c') {
                faulty(text, 3, 4);
            } else {
                faulty(text, 1, letter == 'p' || letter == 'j' || letter == 'w' ? 5 : 4);
            }
        }
    }

    @Says(of = 4, words = "1 it cannot stand there")
    void letterWhereANumberMustStand() {
        for (int letter = 0; letter <= 255; letter++) {
            if (isFigure(letter)) {
                faulty("c10;p" + (char) letter, 1, 6);
            } else {
                faulty("c10;p" + (char) letter, 1, letter == ' ' ? 6 : 5);
            }
        }
    }

    @Says(of = 4, words = "1 it cannot stand there")
    void letterBehindANumber() {
        for (int letter = 0; letter <= 255; letter++) {
            String text = "c10;p10" + (char) letter;
            if (letter == ';') {
                reads(text, 1);
            } else {
                faulty(text, 1, isFigure(letter) || letter == ' ' ? 8 : 7);
            }
        }
    }

    @Says(of = 4, words = "at the first letter that has one (the end at the text's length)")
    void faultAtTheEnd() {
        faulty("c", 1, 1);
        faulty("c ", 1, 2);
        faulty("c10", 1, 3);
        faulty("c10;p", 1, 5);
        faulty("c10;p1", 1, 6);
        faulty("c10;p1;j", 1, 8);
        faulty("c10;p1;j0", 1, 9);
        faulty("c10;p1;j0 ", 1, 10);
        faulty("c10;p1;j0 1", 1, 11);
        faulty("c10;p1;j0 1 9", 1, 13);
        faulty("c10;p1;j0 1 9;w", 1, 15);
        faulty("c10;p1;j0 1 9;w0", 1, 16);
        faulty("c10;p1;j0 1 9;w0 0", 1, 18);
        faulty("c" + " ".repeat(219), 1, 220);
    }

    @Says(of = 4, words = "at the first letter that has one")
    void theFirstOfSeveralFaults() {
        faulty("c9;c10;x", 2, 1);
        faulty("c10;p1000;c10;", 2, 5);
        faulty("c10;j0 0 8;", 2, 5);
        faulty("c10;p1;j0 0 8;", 2, 10);
        faulty("c10;p1;w1 0;", 2, 8);
        faulty("x0000", 1, 0);
        faulty("c10;c1", 3, 4);
        faulty("c9x", 2, 1);
    }

    @Says(of = 4, words = "of these the least")
    void theLeastAtOneLetter() {
        // a 'c' where a number or ';' must stand is 'c' again, too
        faulty("cc", 1, 1);
        faulty("c10c10;", 1, 3);
        // a seventh 'p', a ninth 'j' where ';' must stand
        faulty("c10;p0;p1;p2;p3;p4;p5p6;", 1, 21);
        faulty("c10;p0;" + "j0 1 9;".repeat(7) + "j0 1 9j", 1, 62);
        // of four figures, and a P again
        faulty("c10;p0;j0 1 9;w0 0;w0000 0;", 2, 20);
        // out of its bounds, and of four figures
        faulty("c10;p9999;", 2, 5);
    }

    @Says(of = 4, words = "a PERSON, a JOB that was not told yet; an A that is neither told nor 9 (at its first)")
    void faultAtTheFirstFigure() {
        faulty("c10;p0;j 01 1 9;", 2, 9);
        faulty("c10;p0;j0   100 9;", 2, 12);
        faulty("c10;p0;j0 1   010;", 2, 14);
        faulty("c10;p0;j0 1 9;w   007 0;", 2, 18);
        faulty("c10;p0;j0 1 9;w0    010;", 2, 20);
    }

    @Says(of = 4, words = "3 'c' again, a seventh 'p', a ninth 'j' (at it)")
    void oneTooMany() {
        faulty("c10;c10;", 3, 4);
        faulty("c10; c10;", 3, 5);
        faulty("c10;" + SIX + "j0 1 9;c", 3, 29);
        faulty("c10;" + SIX + "p", 3, 22);
        faulty("c10;" + SIX + "p1000;", 3, 22);
        faulty("c10;p0;" + EIGHT_JOBS + "j9 0 7;", 3, 63);
        // others may stand behind as many as there may be
        reads("c10;" + SIX + EIGHT_JOBS + "w5 7;", 6);
        reads("c10;p0;" + EIGHT_JOBS + "p1;", 2);
    }

    @Says(of = 4, words = "4 'w' of a P again (at the P)")
    void waitsAgain() {
        faulty("c10;p0;j0 1 9;w0 0;w0 0;", 4, 20);
        faulty("c10;p0;j0 1 9;w0 0;w   0 0;", 4, 23);
        faulty("c10;p0;j0 1 9;w0 0;w000", 4, 20);
        faulty("c10;p0;j0 1 9;w0 0;w0 9;", 4, 20);
        faulty("c10;p0;p0;j0 1 9;j0 1 9;w0 0;w1 1;w0 1;", 4, 35);
        reads("c10;p0;p0;j0 1 9;w0 0;w1 0;", 2);
    }

    @Says(of = 4, words = "The place (from 0 on) of the letter that has the FAULT of the latest city(); NONE.")
    void faultOfTheLatest() {
        WakeOrder x = new WakeOrder();
        due(x.fault(), NONE);
        load(x, "x");
        due(x.fault(), 0);
        feed(x, "c10;");
        due(x.fault(), 0);
        x.city();
        due(x.fault(), NONE);
        load(x, "c10;p0;x");
        due(x.fault(), 7);
        load(x, "c10;x");
        due(x.fault(), 4);
        x.city();
        due(x.fault(), NONE);
        load(x, "c10;x");
        load(x, "  ");
        due(x.fault(), NONE);
        load(x, "c");
        x.drift(1);
        x.wake(0, 1);
        due(x.fault(), 1);
    }

    @Says(of = 3, words = "-10 less the number of its FAULT")
    void theNumberOfTheFault() {
        WakeOrder x = new WakeOrder();
        due(load(x, "x"), -11);
        due(load(x, "c9;"), -12);
        due(load(x, "c10;c"), -13);
        due(load(x, "c10;p0;j0 1 9;w0 0;w0"), -14);
    }

    @Says(of = {3, 4}, words = "each P once")
    void waitingOfAnEarlierTextIsForgotten() {
        WakeOrder x = city("c10;p0;j0 1 9;w0 0;");
        due(load(x, "c10;p0;j0 1 9;"), 1);
        due(x.person(0, 2), NONE);
        due(load(x, "c10;p0;j0 1 9;w0 0;x"), -11);
        due(load(x, "c10;p0;j0 1 9;w0 0;"), 1);
        due(x.person(0, 2), 0);
    }
}
