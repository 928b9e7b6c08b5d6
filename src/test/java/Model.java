import java.util.ArrayList;
import java.util.List;
import java.util.regex.Pattern;

/** The document once more, word by word and without any care for speed, to compare the class with. */
final class Model {
    static final int UNKNOWN = -1001;
    static final int BAD_VALUE = -1002;
    static final int FULL = -1003;
    static final int NOT_POSSIBLE = -1004;
    static final int NONE = -1005;

    private static final String ALARM = "(0|[1-9][0-9]{0,4})(/[1-9][0-9]{0,3})?(![1-3])?";
    private static final Pattern LIST = Pattern.compile(ALARM + "(;" + ALARM + ")*");

    private static final class Alarm {
        int number, time, period, rank, rang;
        int greatestSlip = NONE;
        Comparer comparer;
    }

    private static final class Comparer {
        int loading;
        int count;
    }

    private static final class State {
        int counter, ticks, drift, window, loading, ever, loads, takeovers, missed;
        List<Alarm> alarms = new ArrayList<>();
        List<Comparer> comparers = new ArrayList<>();
        /** Each ring: alarm, counter, slip, comparer. */
        List<int[]> rings = new ArrayList<>();

        State copy() {
            State c = new State();
            c.counter = counter;
            c.ticks = ticks;
            c.drift = drift;
            c.window = window;
            c.loading = loading;
            c.ever = ever;
            c.loads = loads;
            c.takeovers = takeovers;
            c.missed = missed;
            for (Comparer from : comparers) {
                Comparer to = new Comparer();
                to.loading = from.loading;
                to.count = from.count;
                c.comparers.add(to);
            }
            for (Alarm from : alarms) {
                Alarm to = new Alarm();
                to.number = from.number;
                to.time = from.time;
                to.period = from.period;
                to.rank = from.rank;
                to.rang = from.rang;
                to.greatestSlip = from.greatestSlip;
                to.comparer = from.comparer == null ? null : c.comparers.get(comparers.indexOf(from.comparer));
                c.alarms.add(to);
            }
            c.rings.addAll(rings);
            return c;
        }

        List<Alarm> inOrder() {
            List<Alarm> order = new ArrayList<>(alarms);
            order.sort((a, b) -> a.time != b.time ? a.time - b.time : a.rank != b.rank ? b.rank - a.rank : a.number - b.number);
            return order;
        }

        List<Alarm> sharers(Comparer comparer) {
            List<Alarm> sharers = new ArrayList<>();
            for (Alarm a : inOrder()) {
                if (a.comparer == comparer) {
                    sharers.add(a);
                }
            }
            return sharers;
        }

        boolean isFree(Comparer comparer) {
            return sharers(comparer).isEmpty();
        }

        void recount(Comparer comparer) {
            List<Alarm> sharers = sharers(comparer);
            if (sharers.isEmpty()) {
                comparer.loading = 0;
            } else {
                comparer.count = sharers.get(sharers.size() - 1).time;
            }
        }

        void tick() {
            ticks++;
            counter++;
            if (drift > 0 && ticks % drift == 0) {
                counter++;
            }
            if (drift < 0 && ticks % -drift == 0) {
                counter--;
            }
            for (Comparer c : comparers) {
                if (c.loading > 0) {
                    c.loading--;
                }
            }
            for (int i = 0; i < comparers.size(); i++) {
                Comparer c = comparers.get(i);
                if (!isFree(c) && c.loading == 0 && c.count <= counter) {
                    for (Alarm a : sharers(c)) {
                        ring(a, i);
                    }
                }
            }
            share();
        }

        void ring(Alarm a, int comparer) {
            int slip = counter - a.time;
            rings.add(new int[] {a.number, counter, slip, comparer});
            a.rang++;
            a.greatestSlip = Math.max(a.greatestSlip, slip);
            a.comparer = null;
            if (a.period == 0) {
                alarms.remove(a);
                return;
            }
            a.time += a.period;
            while (a.time <= counter) {
                missed++;
                a.time += a.period;
            }
        }

        void share() {
            while (shareOne()) {
                continue;
            }
        }

        boolean shareOne() {
            Alarm a = null;
            for (Alarm candidate : inOrder()) {
                if (candidate.comparer == null) {
                    a = candidate;
                    break;
                }
            }
            if (a == null) {
                return false;
            }
            for (Comparer c : comparers) {
                List<Alarm> sharers = sharers(c);
                if (sharers.isEmpty()) {
                    continue;
                }
                int least = a.time;
                int greatest = a.time;
                for (Alarm s : sharers) {
                    least = Math.min(least, s.time);
                    greatest = Math.max(greatest, s.time);
                }
                if (greatest - least <= window) {
                    a.comparer = c;
                    c.count = greatest;
                    return true;
                }
            }
            for (Comparer c : comparers) {
                if (isFree(c)) {
                    load(c, a);
                    return true;
                }
            }
            Comparer latest = comparers.get(0);
            for (Comparer c : comparers) {
                if (c.count > latest.count) {
                    latest = c;
                }
            }
            if (latest.count <= a.time) {
                return false;
            }
            for (Alarm s : sharers(latest)) {
                s.comparer = null;
            }
            takeovers++;
            load(latest, a);
            return true;
        }

        void load(Comparer c, Alarm a) {
            loads++;
            c.count = a.time;
            c.loading = loading;
            a.comparer = c;
        }

        void add(int time, int period, int rank) {
            Alarm a = new Alarm();
            a.number = ever++;
            a.time = time;
            a.period = period;
            a.rank = rank;
            alarms.add(a);
            share();
        }

        void takeOff(Alarm a) {
            Comparer c = a.comparer;
            a.comparer = null;
            if (c != null) {
                recount(c);
            }
        }

        void comparers(int many) {
            while (comparers.size() < many) {
                comparers.add(new Comparer());
            }
            while (comparers.size() > many) {
                Comparer gone = comparers.remove(comparers.size() - 1);
                for (Alarm a : alarms) {
                    if (a.comparer == gone) {
                        a.comparer = null;
                    }
                }
            }
            share();
        }

        Alarm find(int number) {
            for (Alarm a : alarms) {
                if (a.number == number) {
                    return a;
                }
            }
            return null;
        }
    }

    private State state = new State();
    private State snapshot = null;
    private final List<State> history = new ArrayList<>();
    private String text = "";

    Model() {
        state.comparers.add(new Comparer());
        state.comparers.add(new Comparer());
    }

    private void record() {
        history.add(state.copy());
        if (history.size() > 4) {
            history.remove(0);
        }
    }

    private static boolean out(int value, int least, int greatest) {
        return value < least || value > greatest;
    }

    int set(int time, int period, int rank) {
        if (out(time, 0, 99999) || out(period, 0, 9999) || out(rank, 0, 3)) {
            return BAD_VALUE;
        }
        if (time < state.counter) {
            return NOT_POSSIBLE;
        }
        if (state.alarms.size() == 20 || state.ever == 500) {
            return FULL;
        }
        record();
        state.add(time, period, rank);
        return state.ever - 1;
    }

    /** What of a text is good so far is a list, or becomes one by one more number. */
    private static boolean isGoodSoFar(String start) {
        return LIST.matcher(start).matches() || LIST.matcher(start + "1").matches();
    }

    int setAll() {
        for (int i = 0; i < text.length(); i++) {
            if (!isGoodSoFar(text.substring(0, i + 1))) {
                return -1100 - i;
            }
        }
        if (!LIST.matcher(text).matches()) {
            return -1100 - text.length();
        }
        List<int[]> listed = new ArrayList<>();
        for (String part : text.split(";")) {
            String[] ranked = part.split("!");
            String[] timed = ranked[0].split("/");
            listed.add(new int[] {Integer.parseInt(timed[0]),
                timed.length > 1 ? Integer.parseInt(timed[1]) : 0, ranked.length > 1 ? Integer.parseInt(ranked[1]) : 0});
        }
        for (int[] one : listed) {
            if (one[0] < state.counter) {
                return NOT_POSSIBLE;
            }
        }
        if (state.alarms.size() + listed.size() > 20 || state.ever + listed.size() > 500) {
            return FULL;
        }
        record();
        for (int[] one : listed) {
            state.add(one[0], one[1], one[2]);
        }
        return state.alarms.size();
    }

    int cancel(int alarm) {
        if (state.find(alarm) == null) {
            return UNKNOWN;
        }
        record();
        Alarm a = state.find(alarm);
        state.alarms.remove(a);
        state.takeOff(a);
        state.share();
        return state.alarms.size();
    }

    int move(int alarm, int time) {
        Alarm a = state.find(alarm);
        if (a == null) {
            return UNKNOWN;
        }
        if (out(time, 0, 99999)) {
            return BAD_VALUE;
        }
        if (time < state.counter) {
            return NOT_POSSIBLE;
        }
        if (a.time == time) {
            return NONE;
        }
        record();
        int previous = a.time;
        state.takeOff(a);
        a.time = time;
        state.share();
        return previous;
    }

    int setComparers(int many) {
        if (out(many, 1, 4)) {
            return BAD_VALUE;
        }
        int previous = state.comparers.size();
        if (previous == many) {
            return NONE;
        }
        record();
        state.comparers(many);
        return previous;
    }

    int setWindow(int counts) {
        if (out(counts, 0, 20)) {
            return BAD_VALUE;
        }
        int previous = state.window;
        if (previous == counts) {
            return NONE;
        }
        record();
        state.window = counts;
        state.share();
        return previous;
    }

    int setLoading(int ticks) {
        if (out(ticks, 0, 9)) {
            return BAD_VALUE;
        }
        int previous = state.loading;
        if (previous == ticks) {
            return NONE;
        }
        record();
        state.loading = ticks;
        return previous;
    }

    int setDrift(int drift) {
        if (drift != 0 && out(drift, -999, -2) && out(drift, 2, 999)) {
            return BAD_VALUE;
        }
        int previous = state.drift;
        if (previous == drift) {
            return NONE;
        }
        record();
        state.drift = drift;
        return previous;
    }

    int correct(int by) {
        if (out(by, -999, 999)) {
            return BAD_VALUE;
        }
        if (out(state.counter + by, 0, 99999)) {
            return NOT_POSSIBLE;
        }
        if (by == 0) {
            return NONE;
        }
        record();
        state.counter += by;
        state.share();
        return state.counter;
    }

    int run(int ticks) {
        if (out(ticks, 1, 1000)) {
            return BAD_VALUE;
        }
        if (state.counter + 2 * ticks > 99999) {
            return FULL;
        }
        record();
        int before = state.rings.size();
        for (int i = 0; i < ticks; i++) {
            state.tick();
        }
        return state.rings.size() - before;
    }

    int type(char character) {
        if (text.length() == 60) {
            return FULL;
        }
        text += character;
        return text.length();
    }

    int clearText() {
        int length = text.length();
        text = "";
        return length;
    }

    int undo() {
        if (history.isEmpty()) {
            return NONE;
        }
        state = history.remove(history.size() - 1);
        return history.size();
    }

    int keep() {
        snapshot = state.copy();
        return state.counter;
    }

    int restore() {
        if (snapshot == null) {
            return NONE;
        }
        record();
        state = snapshot.copy();
        return state.counter;
    }

    int alarm(int alarm, int what) {
        Alarm a = state.find(alarm);
        if (a == null) {
            return UNKNOWN;
        }
        if (out(what, 0, 6)) {
            return BAD_VALUE;
        }
        int comparer = a.comparer == null ? NONE : state.comparers.indexOf(a.comparer);
        return new int[] {a.time, a.period, a.rank, comparer, state.inOrder().indexOf(a), a.rang, a.greatestSlip}[what];
    }

    int comparer(int comparer, int what) {
        if (out(comparer, 0, state.comparers.size() - 1)) {
            return UNKNOWN;
        }
        if (out(what, 0, 3)) {
            return BAD_VALUE;
        }
        Comparer c = state.comparers.get(comparer);
        if (state.isFree(c)) {
            return new int[] {NONE, 0, 0, NONE}[what];
        }
        List<Alarm> sharers = state.sharers(c);
        return new int[] {c.count, sharers.size(), c.loading, sharers.get(0).number}[what];
    }

    int at(int place) {
        if (place < 0) {
            return BAD_VALUE;
        }
        return place >= state.alarms.size() ? NONE : state.inOrder().get(place).number;
    }

    int ringsIn(int alarm) {
        if (state.find(alarm) == null) {
            return UNKNOWN;
        }
        State ahead = state.copy();
        int before = ahead.rings.size();
        for (int t = 1; t <= 1000; t++) {
            ahead.tick();
            for (int i = before; i < ahead.rings.size(); i++) {
                if (ahead.rings.get(i)[0] == alarm) {
                    return t;
                }
            }
            before = ahead.rings.size();
        }
        return NONE;
    }

    int ifComparers(int many, int ticks, int what) {
        if (out(many, 1, 4) || out(ticks, 1, 500) || out(what, 0, 3)) {
            return BAD_VALUE;
        }
        State tried = state.copy();
        tried.comparers(many);
        int missed = tried.missed;
        int before = tried.rings.size();
        for (int t = 0; t < ticks; t++) {
            tried.tick();
        }
        int sum = 0;
        int greatest = 0;
        for (int[] ring : tried.rings.subList(before, tried.rings.size())) {
            sum += ring[2];
            greatest = Math.max(greatest, ring[2]);
        }
        return new int[] {tried.rings.size() - before, sum, greatest, tried.missed - missed}[what];
    }

    int fewest(int ticks) {
        if (out(ticks, 1, 500)) {
            return BAD_VALUE;
        }
        int best = 4;
        for (int many = 3; many >= 1; many--) {
            if (ifComparers(many, ticks, 1) <= ifComparers(best, ticks, 1)) {
                best = many;
            }
        }
        return best;
    }

    int ring(int back, int what) {
        if (back < 0 || out(what, 0, 3)) {
            return BAD_VALUE;
        }
        if (back >= 8 || back >= state.rings.size()) {
            return NONE;
        }
        return state.rings.get(state.rings.size() - 1 - back)[what];
    }

    int count(int what) {
        if (out(what, 0, 17)) {
            return BAD_VALUE;
        }
        int without = 0;
        for (Alarm a : state.alarms) {
            without += a.comparer == null ? 1 : 0;
        }
        int free = 0;
        for (Comparer c : state.comparers) {
            free += state.isFree(c) ? 1 : 0;
        }
        int sum = 0;
        int greatest = 0;
        for (int[] ring : state.rings) {
            sum += ring[2];
            greatest = Math.max(greatest, ring[2]);
        }
        return new int[] {state.counter, state.ticks, state.alarms.size(), state.ever, without, free,
            state.rings.size(), sum, greatest, state.missed, state.loads, state.takeovers, state.comparers.size(),
            state.window, state.loading, state.drift, history.size(), text.length()}[what];
    }
}
