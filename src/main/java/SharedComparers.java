/** A timer chip whose few comparers are shared by many alarms; ../shared/DOC.md tells what each call does. */
public final class SharedComparers {
    public static final int UNKNOWN = -1001;
    public static final int BAD_VALUE = -1002;
    public static final int FULL = -1003;
    public static final int NOT_POSSIBLE = -1004;
    public static final int NONE = -1005;

    private static final int FAULT_BASE = -1100;
    private static final int NO_FAULT = -1;
    private static final int NO_NUMBER = -1;
    private static final int NOWHERE = -1;

    private static final int GREATEST_COUNT = 99999;
    private static final int GREATEST_PERIOD = 9999;
    private static final int GREATEST_RANK = 3;
    private static final int GREATEST_WINDOW = 20;
    private static final int GREATEST_LOADING = 9;
    private static final int GREATEST_DRIFT = 999;
    private static final int GREATEST_CORRECTION = 999;

    private static final int MOST_ALARMS = 20;
    private static final int MOST_ALARMS_EVER = 500;
    private static final int MOST_COMPARERS = 4;
    private static final int COMPARERS_AT_FIRST = 2;
    private static final int MOST_TICKS_OF_RUN = 1000;
    private static final int MOST_TICKS_AHEAD = 1000;
    private static final int MOST_TICKS_TRIED = 500;
    private static final int MOST_CHARACTERS = 60;
    private static final int MOST_LISTED = 30;
    private static final int MOST_STATES = 4;
    private static final int LOGGED_RINGS = 8;
    private static final int LOGGED_FACTS = 4;

    // Sharing out ends by itself, far below this: it serves the alarms by their order, and only a group that is wider
    // than the window can lose its comparer to a later alarm than one of its own; no such group is formed anew.
    private static final int MOST_TURNS = 1000000;

    private final Chip chip;
    private final Chip trial;
    private final Chip snapshot;
    private final History history;
    private final AlarmText text;
    private boolean isKept;

    public SharedComparers() {
        chip = new Chip();
        trial = new Chip();
        snapshot = new Chip();
        history = new History();
        text = new AlarmText();
        isKept = false;
    }

    // ---- alarms

    public int set(int time, int period, int rank) {
        if (!isWithin(time, 0, GREATEST_COUNT) || !isWithin(period, 0, GREATEST_PERIOD)
                || !isWithin(rank, 0, GREATEST_RANK)) {
            return BAD_VALUE;
        }
        if (time < chip.counter) {
            return NOT_POSSIBLE;
        }
        if (!chip.hasRoomFor(1)) {
            return FULL;
        }
        history.recordState(chip);
        return chip.addAlarm(time, period, rank);
    }

    public int setAll() {
        int fault = text.readList();
        if (fault != NO_FAULT) {
            return FAULT_BASE - fault;
        }
        if (text.leastTime() < chip.counter) {
            return NOT_POSSIBLE;
        }
        if (!chip.hasRoomFor(text.listed)) {
            return FULL;
        }
        history.recordState(chip);
        for (int i = 0; i < text.listed && i < MOST_LISTED; i++) {
            chip.addAlarm(text.times[i], text.periods[i], text.ranks[i]);
        }
        return chip.alarmsSet;
    }

    public int cancel(int alarm) {
        int place = chip.placeOf(alarm);
        if (place == NOWHERE) {
            return UNKNOWN;
        }
        history.recordState(chip);
        chip.cancelAlarm(place);
        return chip.alarmsSet;
    }

    public int move(int alarm, int time) {
        int place = chip.placeOf(alarm);
        if (place == NOWHERE) {
            return UNKNOWN;
        }
        if (!isWithin(time, 0, GREATEST_COUNT)) {
            return BAD_VALUE;
        }
        if (time < chip.counter) {
            return NOT_POSSIBLE;
        }
        int previous = chip.alarms[place].time;
        if (previous == time) {
            return NONE;
        }
        history.recordState(chip);
        chip.moveAlarm(place, time);
        return previous;
    }

    // ---- the chip

    public int setComparers(int many) {
        if (!isWithin(many, 1, MOST_COMPARERS)) {
            return BAD_VALUE;
        }
        int previous = chip.comparersInUse;
        if (previous == many) {
            return NONE;
        }
        history.recordState(chip);
        chip.changeComparers(many);
        return previous;
    }

    public int setWindow(int counts) {
        if (!isWithin(counts, 0, GREATEST_WINDOW)) {
            return BAD_VALUE;
        }
        int previous = chip.window;
        if (previous == counts) {
            return NONE;
        }
        history.recordState(chip);
        chip.window = counts;
        chip.shareOut();
        return previous;
    }

    public int setLoading(int ticks) {
        if (!isWithin(ticks, 0, GREATEST_LOADING)) {
            return BAD_VALUE;
        }
        int previous = chip.loading;
        if (previous == ticks) {
            return NONE;
        }
        history.recordState(chip);
        chip.loading = ticks;
        return previous;
    }

    public int setDrift(int drift) {
        if (!isWithin(drift, -GREATEST_DRIFT, GREATEST_DRIFT) || drift == 1 || drift == -1) {
            return BAD_VALUE;
        }
        int previous = chip.drift;
        if (previous == drift) {
            return NONE;
        }
        history.recordState(chip);
        chip.drift = drift;
        return previous;
    }

    public int correct(int by) {
        if (!isWithin(by, -GREATEST_CORRECTION, GREATEST_CORRECTION)) {
            return BAD_VALUE;
        }
        int corrected = chip.counter + by;
        if (!isWithin(corrected, 0, GREATEST_COUNT)) {
            return NOT_POSSIBLE;
        }
        if (by == 0) {
            return NONE;
        }
        history.recordState(chip);
        chip.counter = corrected;
        chip.shareOut();
        return corrected;
    }

    public int run(int ticks) {
        if (!isWithin(ticks, 1, MOST_TICKS_OF_RUN)) {
            return BAD_VALUE;
        }
        if (chip.counter + 2 * ticks > GREATEST_COUNT) {
            return FULL;
        }
        history.recordState(chip);
        int ringsBefore = chip.totals.rings;
        for (int i = 0; i < ticks; i++) {
            chip.tick();
        }
        return chip.totals.rings - ringsBefore;
    }

    // ---- texts

    public int type(char character) {
        return text.append(character) ? text.length : FULL;
    }

    public int clearText() {
        int previous = text.length;
        text.length = 0;
        return previous;
    }

    // ---- history

    public int undo() {
        if (history.states == 0) {
            return NONE;
        }
        history.takeBack(chip);
        return history.states;
    }

    public int keep() {
        snapshot.copyFrom(chip);
        isKept = true;
        return chip.counter;
    }

    public int restore() {
        if (!isKept) {
            return NONE;
        }
        history.recordState(chip);
        chip.copyFrom(snapshot);
        return chip.counter;
    }

    // ---- what is told

    public int alarm(int alarm, int what) {
        int place = chip.placeOf(alarm);
        if (place == NOWHERE) {
            return UNKNOWN;
        }
        Alarm told = chip.alarms[place];
        switch (what) {
            case 0: return told.time;
            case 1: return told.period;
            case 2: return told.rank;
            case 3: return told.comparer;
            case 4: return place;
            case 5: return told.rings;
            case 6: return told.greatestSlip;
            default: return BAD_VALUE;
        }
    }

    public int comparer(int comparer, int what) {
        if (!isWithin(comparer, 0, chip.comparersInUse - 1)) {
            return UNKNOWN;
        }
        Comparer told = chip.comparers[comparer];
        switch (what) {
            case 0: return told.isFree() ? NONE : told.count;
            case 1: return told.sharers;
            case 2: return told.ticksToLoad;
            case 3: return chip.firstSharerOf(comparer);
            default: return BAD_VALUE;
        }
    }

    public int at(int place) {
        if (place < 0) {
            return BAD_VALUE;
        }
        return place < chip.alarmsSet ? chip.alarms[place].number : NONE;
    }

    public int ringsIn(int alarm) {
        int place = chip.placeOf(alarm);
        if (place == NOWHERE) {
            return UNKNOWN;
        }
        int ringsBefore = chip.alarms[place].rings;
        trial.copyFrom(chip);
        for (int ticks = 1; ticks <= MOST_TICKS_AHEAD; ticks++) {
            trial.tick();
            if (trial.hasRungSince(alarm, ringsBefore)) {
                return ticks;
            }
        }
        return NONE;
    }

    public int ifComparers(int many, int ticks, int what) {
        if (!isWithin(many, 1, MOST_COMPARERS) || !isWithin(ticks, 1, MOST_TICKS_TRIED) || !isWithin(what, 0, 3)) {
            return BAD_VALUE;
        }
        tryComparers(many, ticks);
        switch (what) {
            case 0: return trial.totals.rings;
            case 1: return trial.totals.slips;
            case 2: return trial.totals.greatestSlip;
            default: return trial.totals.missed;
        }
    }

    public int fewest(int ticks) {
        if (!isWithin(ticks, 1, MOST_TICKS_TRIED)) {
            return BAD_VALUE;
        }
        int best = 0;
        int leastSlips = 0;
        for (int many = 1; many <= MOST_COMPARERS; many++) {
            tryComparers(many, ticks);
            if (best == 0 || trial.totals.slips < leastSlips) {
                best = many;
                leastSlips = trial.totals.slips;
            }
        }
        return best;
    }

    public int ring(int back, int what) {
        return chip.log.tell(back, what);
    }

    public int count(int what) {
        switch (what) {
            case 0: return chip.counter;
            case 1: return chip.ticks;
            case 2: return chip.alarmsSet;
            case 3: return chip.alarmsEver;
            case 4: return chip.alarmsWithoutComparer();
            case 5: return chip.freeComparers();
            case 6: return chip.totals.rings;
            case 7: return chip.totals.slips;
            case 8: return chip.totals.greatestSlip;
            case 9: return chip.totals.missed;
            case 10: return chip.totals.loaded;
            case 11: return chip.totals.takenOver;
            case 12: return chip.comparersInUse;
            case 13: return chip.window;
            case 14: return chip.loading;
            case 15: return chip.drift;
            case 16: return history.states;
            case 17: return text.length;
            default: return BAD_VALUE;
        }
    }

    private static boolean isWithin(int value, int least, int greatest) {
        return value >= least && value <= greatest;
    }

    /** Leaves in the trial's totals what these ticks alone would bring with so many comparers. */
    private void tryComparers(int many, int ticks) {
        trial.copyFrom(chip);
        trial.changeComparers(many);
        trial.totals.clear();
        for (int i = 0; i < ticks; i++) {
            trial.tick();
        }
    }

    /** An alarm; its comparer is NONE while it has none, its greatest slip NONE until it rings. */
    private static final class Alarm {
        private int number;
        private int time;
        private int period;
        private int rank;
        private int comparer;
        private int rings;
        private int greatestSlip;
        private boolean isOver;

        private void begin(int newNumber, int newTime, int newPeriod, int newRank) {
            number = newNumber;
            time = newTime;
            period = newPeriod;
            rank = newRank;
            comparer = NONE;
            rings = 0;
            greatestSlip = NONE;
            isOver = false;
        }

        private void copyFrom(Alarm other) {
            number = other.number;
            time = other.time;
            period = other.period;
            rank = other.rank;
            comparer = other.comparer;
            rings = other.rings;
            greatestSlip = other.greatestSlip;
            isOver = other.isOver;
        }

        private boolean isBefore(Alarm other) {
            if (time != other.time) {
                return time < other.time;
            }
            if (rank != other.rank) {
                return rank > other.rank;
            }
            return number < other.number;
        }

        private void noteRing(int slip) {
            rings++;
            greatestSlip = Math.max(greatestSlip, slip);
            comparer = NONE;
        }

        /** Goes on to its first time behind the counter, or is over; answers how often it is missed by that. */
        private int goOn(int slip) {
            if (period <= 0) {
                isOver = true;
                return 0;
            }
            int missed = slip / period;
            time += (missed + 1) * period;
            return missed;
        }
    }

    /** A comparer; it is free while no alarm shares it. The least and the count are those of its alarms' times. */
    private static final class Comparer {
        private int sharers;
        private int least;
        private int count;
        private int ticksToLoad;

        private void copyFrom(Comparer other) {
            sharers = other.sharers;
            least = other.least;
            count = other.count;
            ticksToLoad = other.ticksToLoad;
        }

        private boolean isFree() {
            return sharers == 0;
        }

        private boolean isDue(int counter) {
            return sharers > 0 && ticksToLoad == 0 && count <= counter;
        }

        private boolean canTake(int time, int window) {
            return sharers > 0 && count - least <= window && count - time <= window && time - least <= window;
        }

        private void release() {
            sharers = 0;
            least = 0;
            count = 0;
            ticksToLoad = 0;
        }

        private void load(int time, int ticks) {
            sharers = 1;
            least = time;
            count = time;
            ticksToLoad = ticks;
        }

        private void join(int time) {
            least = sharers == 0 ? time : Math.min(least, time);
            count = sharers == 0 ? time : Math.max(count, time);
            sharers++;
        }

        private void loadOn() {
            if (ticksToLoad > 0) {
                ticksToLoad--;
            }
        }
    }

    /** What happened so far. */
    private static final class Totals {
        private int rings;
        private int slips;
        private int greatestSlip;
        private int missed;
        private int loaded;
        private int takenOver;

        private void clear() {
            rings = 0;
            slips = 0;
            greatestSlip = 0;
            missed = 0;
            loaded = 0;
            takenOver = 0;
        }

        private void copyFrom(Totals other) {
            rings = other.rings;
            slips = other.slips;
            greatestSlip = other.greatestSlip;
            missed = other.missed;
            loaded = other.loaded;
            takenOver = other.takenOver;
        }

        private void noteRing(int slip) {
            rings++;
            slips += slip;
            greatestSlip = Math.max(greatestSlip, slip);
        }
    }

    /** The latest rings: a row of facts each, in a round of rows. */
    private static final class RingLog {
        private final int[] facts = new int[LOGGED_RINGS * LOGGED_FACTS];
        private int noted;

        private void copyFrom(RingLog other) {
            System.arraycopy(other.facts, 0, facts, 0, LOGGED_RINGS * LOGGED_FACTS);
            noted = other.noted;
        }

        private void note(int alarm, int counter, int slip, int comparer) {
            int row = noted % LOGGED_RINGS * LOGGED_FACTS;
            facts[row] = alarm;
            facts[row + 1] = counter;
            facts[row + 2] = slip;
            facts[row + 3] = comparer;
            noted++;
        }

        private int tell(int back, int what) {
            if (back < 0 || what < 0 || what >= LOGGED_FACTS) {
                return BAD_VALUE;
            }
            if (back >= LOGGED_RINGS || back >= noted) {
                return NONE;
            }
            return facts[(noted - 1 - back) % LOGGED_RINGS * LOGGED_FACTS + what];
        }
    }

    /** A state: all that undo and the snapshot bring back. The alarms stand in their order. */
    private static final class Chip {
        private int counter;
        private int ticks;
        private int drift;
        private int window;
        private int loading;
        private int alarmsSet;
        private int alarmsEver;
        private int comparersInUse;
        private final Alarm[] alarms;
        private final Comparer[] comparers;
        private final Totals totals;
        private final RingLog log;

        private Chip() {
            comparersInUse = COMPARERS_AT_FIRST;
            alarms = new Alarm[MOST_ALARMS];
            for (int i = 0; i < MOST_ALARMS; i++) {
                alarms[i] = new Alarm();
            }
            comparers = new Comparer[MOST_COMPARERS];
            for (int i = 0; i < MOST_COMPARERS; i++) {
                comparers[i] = new Comparer();
            }
            totals = new Totals();
            log = new RingLog();
        }

        private void copyFrom(Chip other) {
            counter = other.counter;
            ticks = other.ticks;
            drift = other.drift;
            window = other.window;
            loading = other.loading;
            alarmsSet = other.alarmsSet;
            alarmsEver = other.alarmsEver;
            comparersInUse = other.comparersInUse;
            for (int i = 0; i < alarmsSet; i++) {
                alarms[i].copyFrom(other.alarms[i]);
            }
            for (int i = 0; i < MOST_COMPARERS; i++) {
                comparers[i].copyFrom(other.comparers[i]);
            }
            totals.copyFrom(other.totals);
            log.copyFrom(other.log);
        }

        // -- the alarms

        private boolean hasRoomFor(int more) {
            return alarmsSet + more <= MOST_ALARMS && alarmsEver + more <= MOST_ALARMS_EVER;
        }

        private int placeOf(int number) {
            for (int i = 0; i < alarmsSet; i++) {
                if (alarms[i].number == number) {
                    return i;
                }
            }
            return NOWHERE;
        }

        private boolean hasRungSince(int number, int ringsBefore) {
            int place = placeOf(number);
            return place == NOWHERE || alarms[place].rings > ringsBefore;
        }

        private int addAlarm(int time, int period, int rank) {
            if (!hasRoomFor(1)) {
                return FULL;
            }
            int number = alarmsEver;
            alarms[alarmsSet].begin(number, time, period, rank);
            alarmsSet++;
            alarmsEver++;
            sortAlarms();
            shareOut();
            return number;
        }

        private void cancelAlarm(int place) {
            takeOff(alarms[place]);
            removeAlarm(place);
            shareOut();
        }

        private void moveAlarm(int place, int time) {
            Alarm moved = alarms[place];
            takeOff(moved);
            moved.time = time;
            sortAlarms();
            shareOut();
        }

        private void sortAlarms() {
            for (int i = 1; i < alarmsSet; i++) {
                for (int j = i; j > 0 && alarms[j].isBefore(alarms[j - 1]); j--) {
                    Alarm earlier = alarms[j];
                    alarms[j] = alarms[j - 1];
                    alarms[j - 1] = earlier;
                }
            }
        }

        // The removed one's object goes behind the set ones, where the next alarm that is set uses it again.
        private void removeAlarm(int place) {
            Alarm removed = alarms[place];
            for (int i = place; i + 1 < alarmsSet; i++) {
                alarms[i] = alarms[i + 1];
            }
            alarmsSet--;
            alarms[alarmsSet] = removed;
        }

        private int alarmsWithoutComparer() {
            int without = 0;
            for (int i = 0; i < alarmsSet; i++) {
                if (alarms[i].comparer == NONE) {
                    without++;
                }
            }
            return without;
        }

        // -- ticks

        private void tick() {
            ticks++;
            counter += growth();
            for (int i = 0; i < comparersInUse; i++) {
                comparers[i].loadOn();
            }
            boolean anyRang = false;
            for (int i = 0; i < comparersInUse; i++) {
                if (comparers[i].isDue(counter)) {
                    ringComparer(i);
                    anyRang = true;
                }
            }
            // Without a ring nothing has changed that sharing out looks at: it would change nothing again.
            if (anyRang) {
                shareOut();
            }
        }

        private int growth() {
            if (drift == 0 || ticks % drift != 0) {
                return 1;
            }
            return drift > 0 ? 2 : 0;
        }

        // All of them ring before any is put in its new place, so that they ring in the order that they had.
        private void ringComparer(int comparer) {
            for (int i = 0; i < alarmsSet; i++) {
                if (alarms[i].comparer == comparer) {
                    ringAlarm(alarms[i], comparer);
                }
            }
            comparers[comparer].release();
            for (int i = alarmsSet - 1; i >= 0; i--) {
                if (alarms[i].isOver) {
                    removeAlarm(i);
                }
            }
            sortAlarms();
        }

        private void ringAlarm(Alarm alarm, int comparer) {
            int slip = counter - alarm.time;
            log.note(alarm.number, counter, slip, comparer);
            totals.noteRing(slip);
            alarm.noteRing(slip);
            totals.missed += alarm.goOn(slip);
        }

        // -- the comparers

        private void changeComparers(int many) {
            for (int i = many; i < comparersInUse; i++) {
                sendOffSharers(i);
            }
            comparersInUse = many;
            shareOut();
        }

        private void sendOffSharers(int comparer) {
            for (int i = 0; i < alarmsSet; i++) {
                if (alarms[i].comparer == comparer) {
                    alarms[i].comparer = NONE;
                }
            }
            comparers[comparer].release();
        }

        private void takeOff(Alarm alarm) {
            int left = alarm.comparer;
            if (left < 0 || left >= MOST_COMPARERS) {
                return;
            }
            alarm.comparer = NONE;
            int ticksToLoad = comparers[left].ticksToLoad;
            comparers[left].release();
            for (int i = 0; i < alarmsSet; i++) {
                if (alarms[i].comparer == left) {
                    comparers[left].join(alarms[i].time);
                    comparers[left].ticksToLoad = ticksToLoad;
                }
            }
        }

        private int freeComparers() {
            int free = 0;
            for (int i = 0; i < comparersInUse; i++) {
                if (comparers[i].isFree()) {
                    free++;
                }
            }
            return free;
        }

        private int firstSharerOf(int comparer) {
            for (int i = 0; i < alarmsSet; i++) {
                if (alarms[i].comparer == comparer) {
                    return alarms[i].number;
                }
            }
            return NONE;
        }

        // -- sharing out

        private void shareOut() {
            for (int turn = 0; turn < MOST_TURNS; turn++) {
                int place = firstWithoutComparer();
                if (place == NOWHERE || !findComparerFor(alarms[place])) {
                    return;
                }
            }
        }

        private int firstWithoutComparer() {
            for (int i = 0; i < alarmsSet; i++) {
                if (alarms[i].comparer == NONE) {
                    return i;
                }
            }
            return NOWHERE;
        }

        private boolean findComparerFor(Alarm alarm) {
            int shared = firstThatCanTake(alarm.time);
            if (shared != NOWHERE) {
                comparers[shared].join(alarm.time);
                alarm.comparer = shared;
                return true;
            }
            int free = firstFree();
            if (free != NOWHERE) {
                loadFor(alarm, free);
                return true;
            }
            int latest = firstOfGreatestCount();
            if (comparers[latest].count <= alarm.time) {
                return false;
            }
            sendOffSharers(latest);
            totals.takenOver++;
            loadFor(alarm, latest);
            return true;
        }

        private int firstThatCanTake(int time) {
            for (int i = 0; i < comparersInUse; i++) {
                if (comparers[i].canTake(time, window)) {
                    return i;
                }
            }
            return NOWHERE;
        }

        private int firstFree() {
            for (int i = 0; i < comparersInUse; i++) {
                if (comparers[i].isFree()) {
                    return i;
                }
            }
            return NOWHERE;
        }

        private int firstOfGreatestCount() {
            int latest = 0;
            for (int i = 1; i < comparersInUse; i++) {
                if (comparers[i].count > comparers[latest].count) {
                    latest = i;
                }
            }
            return latest;
        }

        private void loadFor(Alarm alarm, int comparer) {
            comparers[comparer].load(alarm.time, loading);
            alarm.comparer = comparer;
            totals.loaded++;
        }
    }

    /** The latest states, the oldest first. */
    private static final class History {
        private final Chip[] kept;
        private int states;

        private History() {
            kept = new Chip[MOST_STATES];
            for (int i = 0; i < MOST_STATES; i++) {
                kept[i] = new Chip();
            }
        }

        private void recordState(Chip now) {
            if (states == MOST_STATES) {
                dropOldest();
            }
            kept[states].copyFrom(now);
            states++;
        }

        // The dropped one's object goes to the end, where the next state that is recorded uses it again.
        private void dropOldest() {
            Chip oldest = kept[0];
            for (int i = 0; i + 1 < MOST_STATES; i++) {
                kept[i] = kept[i + 1];
            }
            kept[MOST_STATES - 1] = oldest;
            states--;
        }

        private void takeBack(Chip into) {
            if (states > 0) {
                states--;
                into.copyFrom(kept[states]);
            }
        }
    }

    /** The text that is typed, and the alarms that were read from it. */
    private static final class AlarmText {
        private final char[] characters = new char[MOST_CHARACTERS];
        private int length;
        private final int[] times = new int[MOST_LISTED];
        private final int[] periods = new int[MOST_LISTED];
        private final int[] ranks = new int[MOST_LISTED];
        private int listed;
        private int position;

        private boolean append(char character) {
            if (length >= MOST_CHARACTERS) {
                return false;
            }
            characters[length] = character;
            length++;
            return true;
        }

        /** Answers the fault of the text, or NO_FAULT. */
        private int readList() {
            listed = 0;
            position = 0;
            for (int i = 0; i <= MOST_LISTED; i++) {
                if (!readAlarm()) {
                    return position;
                }
                if (!readSign(';')) {
                    return position == length ? NO_FAULT : position;
                }
            }
            return position;
        }

        private boolean readAlarm() {
            int time = readNumber(0, GREATEST_COUNT);
            int period = 0;
            int rank = 0;
            if (time != NO_NUMBER && readSign('/')) {
                period = readNumber(1, GREATEST_PERIOD);
            }
            if (time != NO_NUMBER && period != NO_NUMBER && readSign('!')) {
                rank = readNumber(1, GREATEST_RANK);
            }
            if (time == NO_NUMBER || period == NO_NUMBER || rank == NO_NUMBER || listed >= MOST_LISTED) {
                return false;
            }
            times[listed] = time;
            periods[listed] = period;
            ranks[listed] = rank;
            listed++;
            return true;
        }

        private boolean readSign(char sign) {
            if (position >= length || position >= MOST_CHARACTERS || characters[position] != sign) {
                return false;
            }
            position++;
            return true;
        }

        /** Answers the number, with the position behind it; or NO_NUMBER, with the position at the fault. */
        private int readNumber(int least, int greatest) {
            int value = digitHere();
            if (value == NO_NUMBER || value < least || value > greatest) {
                return NO_NUMBER;
            }
            position++;
            // Behind a zero in front no digit is allowed.
            while (value > 0 && position < length) {
                int digit = digitHere();
                if (digit == NO_NUMBER || value * 10 + digit > greatest) {
                    return value;
                }
                value = value * 10 + digit;
                position++;
            }
            return value;
        }

        private int digitHere() {
            if (position >= length || position >= MOST_CHARACTERS) {
                return NO_NUMBER;
            }
            char sign = characters[position];
            return sign >= '0' && sign <= '9' ? sign - '0' : NO_NUMBER;
        }

        private int leastTime() {
            int least = GREATEST_COUNT;
            for (int i = 0; i < listed; i++) {
                least = Math.min(least, times[i]);
            }
            return least;
        }
    }
}
