import java.util.Arrays;

/** The capital in which nobody may be awake before whoever is above him. */
public final class WakeOrder {
    public static final int NONE = -1, UNKNOWN = -1000000001, OUTSIDE = -1000000002, NOT = -1000000003, FULL = -1000000004;

    private static final int TEXT_LIMIT = 220;
    private static final int PERSON_LIMIT = 6;
    private static final int JOB_LIMIT = 8;
    private static final int ORDER_LIMIT = 720;
    private static final int SEEN_LIMIT = 6;
    private static final int BOOK_LIMIT = 15;
    private static final int UNDO_LIMIT = 20;
    private static final int IMAGE_LIMIT = 2;
    private static final int LAST_MINUTE = 999;
    private static final int DRIFT_LIMIT = 40;
    private static final int DRIFT_STOP = 9000;
    private static final int SLEEP_LIMIT = 60;
    private static final int HUNDRED = 100;
    private static final int BILLION = 1000000000;
    private static final int EVERYBODY = (1 << PERSON_LIMIT) - 1;

    private final Reader reader = new Reader();
    private final Capital capital = new Capital();
    private final City city = capital.city;
    private final State now = capital.now;
    private final History history = new History();
    private final Images images = new Images();
    private final Trials trials = new Trials();
    private final Windows windows = new Windows();
    private final Book book = new Book();
    private int seedNow;

    // the face asks for it; the rows are made once, where they stand
    public WakeOrder() {
    }

    // ---- the city

    public int feed(int letter) {
        if (letter < 0 || letter > 255) {
            return OUTSIDE;
        }
        return reader.append(letter) ? reader.length : FULL;
    }

    public int city() {
        reader.readText();
        if (reader.faultKind != 0) {
            return -10 - reader.faultKind;
        }
        city.become(reader.draft);
        now.begin(city);
        history.forget();
        images.forget();
        windows.count = 0;
        book.count = 0;
        return city.persons;
    }

    public int fault() {
        return reader.faultPlace;
    }

    public int told(int what) {
        capital.reckonNow();
        switch (what) {
            case 0: return city.minutes;
            case 1: return city.persons;
            case 2: return city.jobs;
            case 3: return reader.length;
            case 4: return now.mornings;
            case 5: return dismissedOnes();
            case 6: return now.shut;
            case 7: return capital.stuckIn(now.row);
            case 8: return capital.undoneJobs();
            case 9: return windows.count;
            case 10: return book.count;
            case 11: return history.count;
            default: return OUTSIDE;
        }
    }

    public int person(int p, int what) {
        if (!isPerson(p)) {
            return UNKNOWN;
        }
        capital.reckonNow();
        switch (what) {
            case 0: return now.wakes[p];
            case 1: return now.row.placeOf(p);
            case 2: return city.waitsFor[p];
            case 3: return capital.up[p];
            case 4: return jobsOf(p);
            default: return OUTSIDE;
        }
    }

    public int job(int j, int what) {
        if (!isJob(j)) {
            return UNKNOWN;
        }
        capital.reckonNow();
        switch (what) {
            case 0: return now.doer[j];
            case 1: return city.takes[j];
            case 2: return city.behind[j];
            case 3: return capital.done[j];
            default: return OUTSIDE;
        }
    }

    public int order(int i) {
        return now.row.at(i);
    }

    // ---- what is done

    public int rank(int p, int place) {
        if (!isPerson(p)) {
            return UNKNOWN;
        }
        if (place < 0 || place >= now.row.size) {
            return OUTSIDE;
        }
        int had = now.row.placeOf(p);
        if (had == NONE) {
            return NOT;
        }
        history.remember(now);
        now.row.takeOut(p);
        now.row.putIn(p, place);
        return had;
    }

    public int eyes(int p, boolean is) {
        if (!isPerson(p)) {
            return UNKNOWN;
        }
        history.remember(now);
        int had = (now.shut >> p) & 1;
        now.shut = is ? now.shut | 1 << p : now.shut & ~(1 << p);
        return had;
    }

    public int hand(int j, int p) {
        if (!isJob(j) || !isPerson(p)) {
            return UNKNOWN;
        }
        history.remember(now);
        int had = now.doer[j];
        now.doer[j] = p;
        return had;
    }

    public int dismiss(int p) {
        if (!isPerson(p)) {
            return UNKNOWN;
        }
        if (now.row.placeOf(p) == NONE) {
            return NOT;
        }
        history.remember(now);
        now.row.takeOut(p);
        return now.row.size;
    }

    public int wake(int p, int w) {
        if (!isPerson(p)) {
            return UNKNOWN;
        }
        if (w < 0 || w > LAST_MINUTE) {
            return OUTSIDE;
        }
        history.remember(now);
        int had = now.wakes[p];
        now.wakes[p] = w;
        return had;
    }

    public int drift(int n) {
        if (n < 1 || n > DRIFT_LIMIT) {
            return OUTSIDE;
        }
        if (city.minutes == 0) {
            return NOT;
        }
        if (now.mornings > DRIFT_STOP) {
            return FULL;
        }
        history.remember(now);
        for (int morning = 0; morning < n; morning++) {
            drawMorning();
        }
        now.mornings += n;
        return now.mornings;
    }

    public int undo() {
        return history.takeBack(now) ? history.count : NOT;
    }

    // ---- tried

    public int raise(int jobs, int t, int i) {
        if ((jobs & ~setOfFirst(city.jobs)) != 0) {
            return UNKNOWN;
        }
        if (t < 0 || t > LAST_MINUTE) {
            return OUTSIDE;
        }
        trials.tryRaising(capital, jobs, t);
        if (trials.fewestRaised == NONE) {
            return NONE;
        }
        return i == NONE ? trials.fewestRaised : trials.best.at(i);
    }

    public int leastHarm(int p, int what) {
        if (!isPerson(p)) {
            return UNKNOWN;
        }
        if (what != 0 && what != 1) {
            return OUTSIDE;
        }
        trials.tryPlaces(capital, p);
        return what == 0 ? trials.bestPlace : trials.harm;
    }

    public int bread(int j) {
        if (!isJob(j)) {
            return UNKNOWN;
        }
        capital.reckonNow();
        int lawful = capital.orMorningsEnd(capital.done[j]);
        capital.reckon(now.row, EVERYBODY);
        return lawful - capital.orMorningsEnd(capital.done[j]);
    }

    public int free(int what) {
        if (what != 0 && what != 1) {
            return OUTSIDE;
        }
        int set = trials.fewestToDismiss(capital);
        return what == 0 ? Integer.bitCount(set) : set;
    }

    public int sleeps(int n, int q) {
        if (n < 0 || n > SLEEP_LIMIT || q < 0 || q > HUNDRED) {
            return OUTSIDE;
        }
        long odds = BILLION;
        for (int minute = 0; minute < n; minute++) {
            odds = odds * (HUNDRED - q) / HUNDRED;
        }
        return (int) odds;
    }

    // ---- windows

    public int see(int p, int q) {
        if (!isPerson(p) || !isPerson(q) || p == q) {
            return UNKNOWN;
        }
        return windows.append(p, q) ? windows.count : FULL;
    }

    public int orders(int p) {
        if (p != NONE && !isPerson(p)) {
            return UNKNOWN;
        }
        windows.survey(capital);
        return p == NONE ? windows.fitting : windows.sureOf(p);
    }

    public int lookNext() {
        windows.survey(capital);
        return windows.bestPair(city.persons);
    }

    public int write(int j, int minute) {
        if (!isJob(j)) {
            return UNKNOWN;
        }
        if (minute < NONE || minute > LAST_MINUTE) {
            return OUTSIDE;
        }
        return book.append(j, minute) ? book.count : FULL;
    }

    public int tear() {
        int both = windows.count + book.count;
        windows.count = 0;
        book.count = 0;
        return both;
    }

    public int judge() {
        capital.reckonNow();
        return book.firstWrong(capital);
    }

    // ---- draws, images

    public int seed(int v) {
        if (v < 0) {
            return OUTSIDE;
        }
        int had = seedNow;
        seedNow = v;
        return had;
    }

    public int keep(int i) {
        if (i < 0 || i >= IMAGE_LIMIT) {
            return UNKNOWN;
        }
        images.store(i, now, seedNow);
        history.forget();
        return 1;
    }

    public int goBack(int i) {
        if (i < 0 || i >= IMAGE_LIMIT) {
            return UNKNOWN;
        }
        if (!images.kept[i]) {
            return NOT;
        }
        images.restore(i, now);
        seedNow = images.seeds[i];
        history.forget();
        return 1;
    }

    // ---- within

    private boolean isPerson(int p) {
        return p >= 0 && p < city.persons && p < PERSON_LIMIT;
    }

    private boolean isJob(int j) {
        return j >= 0 && j < city.jobs && j < JOB_LIMIT;
    }

    private static int setOfFirst(int n) {
        return (1 << n) - 1;
    }

    private int dismissedOnes() {
        return setOfFirst(city.persons) & ~now.row.members();
    }

    private int jobsOf(int p) {
        int many = 0;
        for (int j = 0; j < JOB_LIMIT && j < city.jobs; j++) {
            if (now.doer[j] == p) {
                many++;
            }
        }
        return many;
    }

    private void drawMorning() {
        for (int p = 0; p < PERSON_LIMIT && p < city.persons; p++) {
            now.wakes[p] = drawBelow(city.minutes);
        }
    }

    private int drawBelow(int n) {
        seedNow = (int) ((seedNow * 1103515245L + 12345L) & 0x7fffffffL);
        return n > 0 ? seedNow / 65536 % n : 0;
    }

    private static boolean holds(int[] row, int i) {
        return i >= 0 && i < row.length;
    }

    private static int valueAt(int[] row, int i) {
        return i >= 0 && i < row.length ? row[i] : NONE;
    }

    private static int laterOrNever(int a, int b) {
        return a == NONE || b == NONE ? NONE : Math.max(a, b);
    }

    /** What the text tells; nothing in it changes until another text is read. */
    private static final class City {
        /** 0 tells that there is no city: one that was told has ten at least. */
        int minutes;
        int persons;
        int jobs;
        final int[] wakes = new int[PERSON_LIMIT];
        final int[] waitsFor = new int[PERSON_LIMIT];
        final int[] doer = new int[JOB_LIMIT];
        final int[] takes = new int[JOB_LIMIT];
        final int[] behind = new int[JOB_LIMIT];

        void clear() {
            minutes = 0;
            persons = 0;
            jobs = 0;
        }

        void become(City other) {
            minutes = other.minutes;
            persons = other.persons;
            jobs = other.jobs;
            System.arraycopy(other.wakes, 0, wakes, 0, PERSON_LIMIT);
            System.arraycopy(other.waitsFor, 0, waitsFor, 0, PERSON_LIMIT);
            System.arraycopy(other.doer, 0, doer, 0, JOB_LIMIT);
            System.arraycopy(other.takes, 0, takes, 0, JOB_LIMIT);
            System.arraycopy(other.behind, 0, behind, 0, JOB_LIMIT);
        }

        void addPerson(int minute) {
            if (persons < PERSON_LIMIT) {
                wakes[persons] = minute;
                waitsFor[persons] = NONE;
                persons++;
            }
        }

        void addJob(int p, int minutesTaken, int ahead) {
            if (jobs < JOB_LIMIT) {
                doer[jobs] = p;
                takes[jobs] = minutesTaken;
                behind[jobs] = ahead;
                jobs++;
            }
        }
    }

    /** Gathers the text and reads it into a draft of a city, up to its first fault. */
    private static final class Reader {
        private static final int CANNOT_STAND = 1, BAD_NUMBER = 2, TOO_MANY = 3, TOLD_TWICE = 4;
        private static final int BLANK = 32, NO_JOB = 9, LONGEST_NUMBER = 3;

        private final int[] text = new int[TEXT_LIMIT];
        final City draft = new City();
        int length;
        /** The faults' numbers begin at 1: 0 is none. */
        int faultKind;
        int faultPlace = NONE;
        private int at;
        private int numberAt;

        boolean append(int letter) {
            if (length < 0 || length >= text.length) {
                return false;
            }
            text[length] = letter;
            length++;
            return true;
        }

        void readText() {
            draft.clear();
            at = 0;
            faultKind = 0;
            faultPlace = NONE;
            for (int clause = 0; clause <= TEXT_LIMIT; clause++) {
                skipBlanks();
                if (at >= length || faultKind != 0) {
                    break;
                }
                readClause();
            }
            // a text with a fault is not read on, but told anew
            length = 0;
        }

        private void readClause() {
            int word = letterOrNone();
            int wordAt = at;
            at++;
            if (draft.minutes == 0 && word != 'c') {
                blame(CANNOT_STAND, wordAt);
                return;
            }
            switch (word) {
                case 'c': readMorning(wordAt); break;
                case 'p': readPerson(wordAt); break;
                case 'j': readJob(wordAt); break;
                case 'w': readWaiting(); break;
                default: blame(CANNOT_STAND, wordAt);
            }
        }

        private void readMorning(int wordAt) {
            if (draft.minutes != 0) {
                blame(TOO_MANY, wordAt);
            }
            int minutes = number(10, LAST_MINUTE);
            endClause();
            if (faultKind == 0) {
                draft.minutes = minutes;
            }
        }

        private void readPerson(int wordAt) {
            if (draft.persons >= PERSON_LIMIT) {
                blame(TOO_MANY, wordAt);
            }
            int minute = number(0, LAST_MINUTE);
            endClause();
            if (faultKind == 0) {
                draft.addPerson(minute);
            }
        }

        private void readJob(int wordAt) {
            if (draft.jobs >= JOB_LIMIT) {
                blame(TOO_MANY, wordAt);
            }
            int p = number(0, draft.persons - 1);
            int minutes = number(1, 99);
            int ahead = number(0, LAST_MINUTE);
            if (ahead != NO_JOB && ahead >= draft.jobs) {
                blame(BAD_NUMBER, numberAt);
            }
            endClause();
            if (faultKind == 0) {
                draft.addJob(p, minutes, ahead == NO_JOB ? NONE : ahead);
            }
        }

        private void readWaiting() {
            int p = number(0, draft.persons - 1);
            if (valueAt(draft.waitsFor, p) != NONE) {
                blame(TOLD_TWICE, numberAt);
            }
            int j = number(0, draft.jobs - 1);
            endClause();
            if (faultKind == 0 && holds(draft.waitsFor, p)) {
                draft.waitsFor[p] = j;
            }
        }

        private void skipBlanks() {
            while (at < length && letterOrNone() == BLANK) {
                at++;
            }
        }

        private int letterOrNone() {
            return at >= 0 && at < length && at < text.length ? text[at] : NONE;
        }

        private boolean atFigure() {
            int letter = letterOrNone();
            return letter >= '0' && letter <= '9';
        }

        private int number(int low, int high) {
            skipBlanks();
            if (faultKind != 0) {
                return 0;
            }
            numberAt = at;
            int value = 0;
            while (at < length && atFigure()) {
                // what is too long is a fault anyway, and must not run over
                if (at - numberAt < LONGEST_NUMBER) {
                    value = value * 10 + letterOrNone() - '0';
                }
                at++;
            }
            if (at == numberAt) {
                blame(CANNOT_STAND, at);
            } else if (at - numberAt > LONGEST_NUMBER || value < low || value > high) {
                blame(BAD_NUMBER, numberAt);
            }
            return value;
        }

        private void endClause() {
            skipBlanks();
            if (letterOrNone() == ';') {
                at++;
            } else {
                blame(CANNOT_STAND, at);
            }
        }

        /** Only the first is kept: reading goes from left to right. */
        private void blame(int kind, int where) {
            if (faultKind == 0) {
                faultKind = kind;
                faultPlace = where;
            }
        }
    }

    /** Persons one behind the other, the highest first. */
    private static final class Row {
        private final int[] cells = new int[PERSON_LIMIT];
        int size;

        int at(int i) {
            return i < size ? valueAt(cells, i) : NONE;
        }

        int placeOf(int p) {
            for (int i = 0; i < size && i < cells.length; i++) {
                if (cells[i] == p) {
                    return i;
                }
            }
            return NONE;
        }

        int members() {
            int set = 0;
            for (int i = 0; i < size && i < cells.length; i++) {
                set |= 1 << cells[i];
            }
            return set;
        }

        void become(Row other) {
            System.arraycopy(other.cells, 0, cells, 0, PERSON_LIMIT);
            size = other.size;
        }

        void fillByNumber(int set) {
            size = 0;
            for (int p = 0; p < PERSON_LIMIT; p++) {
                if ((set >> p & 1) == 1) {
                    putIn(p, size);
                }
            }
        }

        void takeOut(int p) {
            int place = placeOf(p);
            if (place == NONE) {
                return;
            }
            for (int i = place; i + 1 < size && i + 1 < cells.length; i++) {
                cells[i] = cells[i + 1];
            }
            size--;
        }

        void putIn(int p, int place) {
            if (size >= cells.length || place < 0 || place > size) {
                return;
            }
            for (int i = size; i > place; i--) {
                cells[i] = cells[i - 1];
            }
            cells[place] = p;
            size++;
        }

        int nearerHeadThanIn(Row other) {
            int raised = 0;
            for (int i = 0; i < size; i++) {
                if (i < other.placeOf(at(i))) {
                    raised++;
                }
            }
            return raised;
        }

        /** By lesser persons first: so the first of like orders is met ahead of the others. */
        boolean toNextOrder() {
            int turn = size - 2;
            while (turn >= 0 && at(turn) > at(turn + 1)) {
                turn--;
            }
            if (turn < 0) {
                return false;
            }
            int other = size - 1;
            while (other > turn && at(other) < at(turn)) {
                other--;
            }
            swap(turn, other);
            for (int low = turn + 1, high = size - 1; low < high; low++, high--) {
                swap(low, high);
            }
            return true;
        }

        private void swap(int i, int k) {
            if (holds(cells, i) && holds(cells, k)) {
                int cell = cells[i];
                cells[i] = cells[k];
                cells[k] = cell;
            }
        }
    }

    /** All that can be undone and that an image keeps, but for the seed. */
    private static final class State {
        final Row row = new Row();
        final int[] wakes = new int[PERSON_LIMIT];
        final int[] doer = new int[JOB_LIMIT];
        int shut;
        int mornings;

        void begin(City city) {
            row.fillByNumber(setOfFirst(city.persons));
            System.arraycopy(city.wakes, 0, wakes, 0, PERSON_LIMIT);
            System.arraycopy(city.doer, 0, doer, 0, JOB_LIMIT);
            shut = 0;
            mornings = 0;
        }

        void become(State other) {
            row.become(other.row);
            System.arraycopy(other.wakes, 0, wakes, 0, PERSON_LIMIT);
            System.arraycopy(other.doer, 0, doer, 0, JOB_LIMIT);
            shut = other.shut;
            mornings = other.mornings;
        }
    }

    /** The states ahead of the latest changes, in a ring in which the oldest are lost. */
    private static final class History {
        private final State[] past = new State[UNDO_LIMIT];
        private int next;
        int count;

        History() {
            for (int i = 0; i < past.length; i++) {
                past[i] = new State();
            }
        }

        void remember(State state) {
            if (next < 0 || next >= past.length) {
                next = 0;
            }
            State slot = past[next];
            if (slot != null) {
                slot.become(state);
            }
            next++;
            count = Math.min(count + 1, UNDO_LIMIT);
        }

        boolean takeBack(State state) {
            if (count == 0) {
                return false;
            }
            next = next > 0 ? next - 1 : past.length - 1;
            State slot = next < past.length ? past[next] : null;
            if (slot != null) {
                state.become(slot);
            }
            count--;
            return true;
        }

        void forget() {
            count = 0;
        }
    }

    /** Two states with their seeds, to go on from. */
    private static final class Images {
        private final State[] states = new State[IMAGE_LIMIT];
        final int[] seeds = new int[IMAGE_LIMIT];
        final boolean[] kept = new boolean[IMAGE_LIMIT];

        Images() {
            for (int i = 0; i < states.length; i++) {
                states[i] = new State();
            }
        }

        void store(int i, State state, int seed) {
            State slot = i >= 0 && i < states.length ? states[i] : null;
            if (slot != null) {
                slot.become(state);
                seeds[i] = seed;
                kept[i] = true;
            }
        }

        void restore(int i, State state) {
            State slot = i >= 0 && i < states.length ? states[i] : null;
            if (slot != null) {
                state.become(slot);
            }
        }

        void forget() {
            for (int i = 0; i < kept.length; i++) {
                kept[i] = false;
            }
        }
    }

    /** The city as it is now; reckons when all are up and all jobs done, by any order and any shut eyes. */
    private static final class Capital {
        final City city = new City();
        final State now = new State();
        final int[] up = new int[PERSON_LIMIT];
        final int[] done = new int[JOB_LIMIT];
        private final int[] idleFrom = new int[PERSON_LIMIT];

        void reckonNow() {
            reckon(now.row, now.shut);
        }

        /** A minute is set as soon as all that it waits for is; a ring never gets so far. */
        void reckon(Row row, int shut) {
            Arrays.fill(up, NONE);
            Arrays.fill(done, NONE);
            int known = 0;
            for (int round = 0; round <= JOB_LIMIT; round++) {
                int before = known;
                setUpByDone(row, shut);
                known = setDoneAndCount();
                // who is not up by now waits for a job: if no other one is done, nobody else will be
                if (known == before) {
                    break;
                }
            }
        }

        private void setUpByDone(Row row, int shut) {
            int lawful = 0;
            for (int i = 0; i < row.size; i++) {
                int p = row.at(i);
                if (!holds(up, p)) {
                    continue;
                }
                boolean open = (shut >> p & 1) == 0;
                up[p] = inMorning(open ? laterOrNever(wakesAt(p), lawful) : wakesAt(p));
                if (open) {
                    lawful = up[p];
                }
            }
        }

        private int wakesAt(int p) {
            int own = valueAt(now.wakes, p);
            int j = valueAt(city.waitsFor, p);
            return j == NONE ? own : laterOrNever(own, valueAt(done, j));
        }

        private int setDoneAndCount() {
            int known = 0;
            System.arraycopy(up, 0, idleFrom, 0, PERSON_LIMIT);
            for (int j = 0; j < JOB_LIMIT && j < city.jobs; j++) {
                int p = now.doer[j];
                int from = valueAt(idleFrom, p);
                if (city.behind[j] != NONE) {
                    from = laterOrNever(from, valueAt(done, city.behind[j]));
                }
                done[j] = from == NONE ? NONE : inMorning(from + city.takes[j]);
                if (holds(idleFrom, p)) {
                    idleFrom[p] = done[j];
                }
                if (done[j] != NONE) {
                    known++;
                }
            }
            return known;
        }

        private int inMorning(int minute) {
            return minute < city.minutes ? minute : NONE;
        }

        int orMorningsEnd(int minute) {
            return minute == NONE ? city.minutes : minute;
        }

        int stuckIn(Row row) {
            int set = 0;
            for (int i = 0; i < row.size; i++) {
                int p = row.at(i);
                if (valueAt(up, p) == NONE) {
                    set |= 1 << p;
                }
            }
            return set;
        }

        int undoneJobs() {
            int set = 0;
            for (int j = 0; j < JOB_LIMIT && j < city.jobs; j++) {
                if (done[j] == NONE) {
                    set |= 1 << j;
                }
            }
            return set;
        }

        boolean isEarlier(int p, int q) {
            int first = valueAt(up, p);
            int second = valueAt(up, q);
            return first != NONE && (second == NONE || first < second);
        }

        boolean allDoneBy(int jobs, int t) {
            for (int j = 0; j < done.length; j++) {
                if ((jobs >> j & 1) == 1 && (done[j] == NONE || done[j] > t)) {
                    return false;
                }
            }
            return true;
        }

        int sumOfUpBut(Row row, int but) {
            int sum = 0;
            for (int i = 0; i < row.size; i++) {
                int p = row.at(i);
                if (p != but) {
                    sum += orMorningsEnd(valueAt(up, p));
                }
            }
            return sum;
        }
    }

    /** What is tried in other orders than the one that is; each answer stays till the next trial. */
    private static final class Trials {
        private final Row trial = new Row();
        final Row best = new Row();
        int fewestRaised;
        int bestPlace;
        int harm;

        void tryRaising(Capital capital, int jobs, int t) {
            Row row = capital.now.row;
            fewestRaised = NONE;
            trial.fillByNumber(row.members());
            for (int k = 0; k < ORDER_LIMIT; k++) {
                int raised = trial.nearerHeadThanIn(row);
                if ((fewestRaised == NONE || raised < fewestRaised) && trialDoes(capital, jobs, t)) {
                    fewestRaised = raised;
                    best.become(trial);
                }
                if (!trial.toNextOrder()) {
                    break;
                }
            }
        }

        private boolean trialDoes(Capital capital, int jobs, int t) {
            capital.reckon(trial, capital.now.shut);
            return capital.allDoneBy(jobs, t);
        }

        void tryPlaces(Capital capital, int p) {
            Row row = capital.now.row;
            bestPlace = NONE;
            harm = NONE;
            if (row.placeOf(p) == NONE) {
                return;
            }
            for (int place = 0; place < row.size; place++) {
                trial.become(row);
                trial.takeOut(p);
                trial.putIn(p, place);
                capital.reckon(trial, capital.now.shut);
                int sum = capital.sumOfUpBut(trial, p);
                if (harm == NONE || sum < harm) {
                    harm = sum;
                    bestPlace = place;
                }
            }
        }

        int fewestToDismiss(Capital capital) {
            int members = capital.now.row.members();
            int bestSet = members;
            for (int set = 0; set < members; set++) {
                boolean fewer = Integer.bitCount(set) < Integer.bitCount(bestSet);
                if (fewer && (set & ~members) == 0 && nobodyStuckWithout(capital, set)) {
                    bestSet = set;
                }
            }
            return bestSet;
        }

        private boolean nobodyStuckWithout(Capital capital, int set) {
            trial.become(capital.now.row);
            for (int p = 0; p < PERSON_LIMIT; p++) {
                if ((set >> p & 1) == 1) {
                    trial.takeOut(p);
                }
            }
            capital.reckon(trial, capital.now.shut);
            return capital.stuckIn(trial) == 0;
        }
    }

    /** What was seen, and which orders fit it. */
    private static final class Windows {
        private final int[] earlier = new int[SEEN_LIMIT];
        private final int[] later = new int[SEEN_LIMIT];
        int count;
        private final Row trial = new Row();
        int fitting;
        private final int[] sure = new int[PERSON_LIMIT];
        /** For p * 6 + q in how many of the fitting orders p is up earlier than q. */
        private final int[] parts = new int[PERSON_LIMIT * PERSON_LIMIT];

        boolean append(int p, int q) {
            if (count < 0 || count >= SEEN_LIMIT) {
                return false;
            }
            earlier[count] = p;
            later[count] = q;
            count++;
            return true;
        }

        void survey(Capital capital) {
            fitting = 0;
            Arrays.fill(sure, NONE);
            Arrays.fill(parts, 0);
            trial.fillByNumber(capital.now.row.members());
            for (int k = 0; k < ORDER_LIMIT; k++) {
                capital.reckon(trial, capital.now.shut);
                if (fits(capital)) {
                    countTrial(capital);
                }
                if (!trial.toNextOrder()) {
                    break;
                }
            }
        }

        private boolean fits(Capital capital) {
            for (int i = 0; i < count && i < SEEN_LIMIT; i++) {
                if (!capital.isEarlier(earlier[i], later[i])) {
                    return false;
                }
            }
            return true;
        }

        private void countTrial(Capital capital) {
            for (int p = 0; p < PERSON_LIMIT; p++) {
                int place = trial.placeOf(p);
                sure[p] = fitting == 0 || sure[p] == place ? place : NONE;
                for (int q = p + 1; q < PERSON_LIMIT; q++) {
                    if (capital.isEarlier(p, q)) {
                        parts[p * PERSON_LIMIT + q]++;
                    }
                }
            }
            fitting++;
        }

        int sureOf(int p) {
            return valueAt(sure, p);
        }

        int bestPair(int persons) {
            int bestCode = NONE;
            int least = fitting;
            for (int p = 0; p < PERSON_LIMIT && p < persons; p++) {
                for (int q = p + 1; q < PERSON_LIMIT && q < persons; q++) {
                    int part = parts[p * PERSON_LIMIT + q];
                    int greatest = Math.max(part, fitting - part);
                    if (greatest < least) {
                        least = greatest;
                        bestCode = 10 * p + q;
                    }
                }
            }
            return bestCode;
        }
    }

    /** Minutes at which jobs are said to be done. */
    private static final class Book {
        private final int[] jobs = new int[BOOK_LIMIT];
        private final int[] minutes = new int[BOOK_LIMIT];
        int count;

        boolean append(int j, int minute) {
            if (count < 0 || count >= BOOK_LIMIT) {
                return false;
            }
            jobs[count] = j;
            minutes[count] = minute;
            count++;
            return true;
        }

        int firstWrong(Capital capital) {
            for (int i = 0; i < count && i < BOOK_LIMIT; i++) {
                if (valueAt(capital.done, jobs[i]) != minutes[i]) {
                    return i;
                }
            }
            return NONE;
        }
    }
}
