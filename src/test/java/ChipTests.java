/** Promises 6 to 11, and what the terms say of ticks and of sharing out. */
public final class ChipTests {
    private static final int BAD_VALUE = SharedComparers.BAD_VALUE;
    private static final int FULL = SharedComparers.FULL;
    private static final int NOT_POSSIBLE = SharedComparers.NOT_POSSIBLE;
    private static final int UNKNOWN = SharedComparers.UNKNOWN;
    private static final int NONE = SharedComparers.NONE;
    private static final Checks CHECKS = new Checks("ChipTests");

    private ChipTests() {
    }

    public static void main(String[] args) {
        setComparers();
        fewerComparers();
        setWindow();
        setWindowShares();
        windowLess();
        setLoading();
        setDrift();
        correct();
        run();
        runIsFull();
        drifts();
        loading();
        ringsInOrder();
        orderBehindARing();
        missed();
        sharing();
        joiningGoesFirst();
        takingOver();
        takingOverTheLowest();
        takingOverNeedsTicks();
        takingOverSendsAllOff();
        fullChip();
        CHECKS.close();
    }

    private static void due(String what, int got, int want) {
        CHECKS.due(what, got, want);
    }

    private static void setComparers() {
        SharedComparers x = new SharedComparers();
        due("6: below", x.setComparers(0), BAD_VALUE);
        due("6: above", x.setComparers(5), BAD_VALUE);
        due("6: it is so", x.setComparers(2), NONE);
        due("6: nothing recorded", x.count(16), 0);
        due("6: most", x.setComparers(4), 2);
        due("6: free", x.count(5), 4);
        due("6: fewest", x.setComparers(1), 4);
        due("6: how many", x.count(12), 1);
        due("6: recorded", x.count(16), 2);
    }

    private static void fewerComparers() {
        SharedComparers x = new SharedComparers();
        x.setComparers(3);
        x.set(30, 0, 0);
        x.set(20, 0, 0);
        x.set(10, 0, 0);
        due("6: one", x.setComparers(1), 3);
        due("6: the first alarm takes over", x.alarm(2, 3), 0);
        due("6: gone", x.alarm(1, 3), NONE);
        due("6: sent off", x.alarm(0, 3), NONE);
        due("6: unknown", x.comparer(1, 0), UNKNOWN);
        due("6: taken over", x.count(11), 1);
        due("6: loaded", x.count(10), 4);
        due("6: two again", x.setComparers(2), 1);
        due("6: shared out", x.alarm(1, 3), 1);
        due("6: without", x.count(4), 1);
        due("6: loaded anew", x.count(10), 5);
        due("6: for one alarm", x.comparer(1, 1), 1);
    }

    private static void setWindow() {
        SharedComparers x = new SharedComparers();
        due("7: below", x.setWindow(-1), BAD_VALUE);
        due("7: above", x.setWindow(21), BAD_VALUE);
        due("7: it is so", x.setWindow(0), NONE);
        due("7: nothing recorded", x.count(16), 0);
        due("7: most", x.setWindow(20), 0);
        due("7: told", x.count(13), 20);
        due("7: previous", x.setWindow(3), 20);
        due("7: recorded", x.count(16), 2);
    }

    private static void setWindowShares() {
        SharedComparers x = new SharedComparers();
        x.setComparers(1);
        x.set(10, 0, 0);
        x.set(14, 0, 0);
        due("7: too far apart", x.setWindow(3), 0);
        due("7: without", x.alarm(1, 3), NONE);
        due("7: near enough", x.setWindow(4), 3);
        due("7: joins", x.alarm(1, 3), 0);
        due("7: the count", x.comparer(0, 0), 14);
        due("7: not loaded by that", x.count(10), 1);
        x.set(16, 0, 0);
        x.set(17, 0, 0);
        due("7: two are too far", x.count(4), 2);
        x.setWindow(7);
        due("7: both join", x.count(4), 0);
        due("7: the last count", x.comparer(0, 0), 17);
    }

    private static void windowLess() {
        SharedComparers x = new SharedComparers();
        x.setComparers(1);
        x.setWindow(7);
        x.set(3, 0, 0);
        x.set(10, 0, 0);
        due("7: less", x.setWindow(0), 7);
        due("7: they stay together", x.comparer(0, 1), 2);
        x.set(4, 0, 0);
        due("S: 4 takes over from both, 3 from it", x.count(11), 2);
        due("S: 3 has it", x.alarm(0, 3), 0);
        due("S: 4 has none", x.alarm(2, 3), NONE);
        due("S: 10 has none", x.alarm(1, 3), NONE);
    }

    private static void setLoading() {
        SharedComparers x = new SharedComparers();
        due("8: below", x.setLoading(-1), BAD_VALUE);
        due("8: above", x.setLoading(10), BAD_VALUE);
        due("8: it is so", x.setLoading(0), NONE);
        due("8: nothing recorded", x.count(16), 0);
        x.set(9, 0, 0);
        due("8: most", x.setLoading(9), 0);
        due("8: told", x.count(14), 9);
        due("8: not what is loaded already", x.comparer(0, 2), 0);
        due("8: previous", x.setLoading(4), 9);
        due("8: recorded", x.count(16), 3);
    }

    private static void setDrift() {
        SharedComparers x = new SharedComparers();
        int[] bad = {-1, 1, -1000, 1000};
        for (int drift : bad) {
            due("9: " + drift, x.setDrift(drift), BAD_VALUE);
        }
        due("9: it is so", x.setDrift(0), NONE);
        due("9: nothing recorded", x.count(16), 0);
        int previous = 0;
        int[] good = {-999, -2, 2, 999, 0};
        for (int drift : good) {
            due("9: " + drift, x.setDrift(drift), previous);
            due("9: told", x.count(15), drift);
            due("9: again", x.setDrift(drift), NONE);
            previous = drift;
        }
        due("9: recorded", x.count(16), 4);
    }

    private static void correct() {
        SharedComparers x = new SharedComparers();
        due("10: below", x.correct(-1000), BAD_VALUE);
        due("10: above", x.correct(1000), BAD_VALUE);
        due("10: less than 0", x.correct(-1), NOT_POSSIBLE);
        due("10: by 0", x.correct(0), NONE);
        due("10: nothing recorded", x.count(16), 0);
        x.set(5, 0, 0);
        due("10: the counter then", x.correct(999), 999);
        due("10: no tick", x.count(1), 0);
        due("10: no ring yet", x.count(6), 0);
        due("10: recorded", x.count(16), 2);
        due("10: it rings late", x.run(1), 1);
        due("10: its slip", x.ring(0, 2), 995);
        due("10: back", x.correct(-999), 1);
        for (int i = 0; i < 100; i++) {
            x.correct(999);
        }
        due("10: near the end", x.count(0), 99901);
        due("10: too much", x.correct(99), NOT_POSSIBLE);
        due("10: the end", x.correct(98), 99999);
        due("10: behind the end", x.correct(1), NOT_POSSIBLE);
        due("10: nothing at the end", x.correct(0), NONE);
    }

    private static void run() {
        SharedComparers x = new SharedComparers();
        due("11: below", x.run(0), BAD_VALUE);
        due("11: above", x.run(1001), BAD_VALUE);
        x.set(3, 2, 0);
        due("11: rings", x.run(7), 3);
        due("11: ticks", x.count(1), 7);
        due("11: recorded", x.count(16), 2);
        x.cancel(0);
        due("11: most", x.run(1000), 0);
        due("11: counter", x.count(0), 1007);
        due("11: recorded without a ring too", x.count(16), 4);
    }

    private static void runIsFull() {
        SharedComparers x = new SharedComparers();
        for (int i = 0; i < 100; i++) {
            x.correct(999);
        }
        due("11: room for 49", x.run(50), FULL);
        due("11: bad before full", x.run(1001), BAD_VALUE);
        due("11: nothing happened", x.count(1), 0);
        due("11: 49", x.run(49), 0);
        x.correct(50);
        due("11: at the end", x.run(1), FULL);
        x.correct(-2);
        due("11: two from the end", x.run(1), 0);
        due("11: one from the end", x.count(0), 99998);
        due("11: no more", x.run(1), FULL);
        x.set(99999, 5, 0);
        due("20: the last count is still ahead", x.ringsIn(0), 1);
        due("21: and rings go on behind it, if only ticks pass", x.ifComparers(1, 6, 0), 2);
    }

    private static void drifts() {
        SharedComparers x = new SharedComparers();
        x.setDrift(3);
        x.run(2);
        due("T: not yet", x.count(0), 2);
        x.run(1);
        due("T: two in the third", x.count(0), 4);
        x.run(3);
        due("T: two in the sixth", x.count(0), 8);
        x.setDrift(-2);
        x.run(1);
        due("T: one in the seventh", x.count(0), 9);
        x.run(1);
        due("T: none in the eighth", x.count(0), 9);
        x.set(9, 0, 0);
        x.setDrift(-10);
        x.run(1);
        due("T: rang", x.ring(0, 1), 10);
        x.set(10, 0, 0);
        due("T: a tick without growth rings", x.run(1), 1);
        due("T: at the count itself", x.ring(0, 2), 0);
        due("T: ten ticks", x.count(1), 10);
        x.setDrift(11);
        x.set(11, 0, 0);
        due("T: a count that is leapt over rings", x.run(1), 1);
        due("T: late by one", x.ring(0, 2), 1);
    }

    private static void loading() {
        SharedComparers x = new SharedComparers();
        x.setLoading(4);
        x.set(2, 0, 0);
        due("T: loading", x.comparer(0, 2), 4);
        due("T: not by three ticks", x.run(3), 0);
        due("T: one is left", x.comparer(0, 2), 1);
        due("20: rings with the last", x.ringsIn(0), 1);
        due("T: with the last one it rings", x.run(1), 1);
        due("T: its slip", x.ring(0, 2), 2);
        due("T: free", x.comparer(0, 2), 0);
        x.set(6, 3, 0);
        x.run(4);
        due("T: loaded anew behind the ring", x.comparer(0, 2), 4);
        due("T: for its next time", x.comparer(0, 0), 9);
        SharedComparers y = new SharedComparers();
        y.setLoading(2);
        y.set(0, 0, 0);
        due("T: loading at count 0", y.comparer(0, 2), 2);
        due("T: loaded at count 0", y.count(10), 1);
        due("T: not yet", y.run(1), 0);
        due("T: now", y.run(1), 1);
    }

    private static void orderBehindARing() {
        SharedComparers x = new SharedComparers();
        x.set(5, 4, 0);
        x.set(7, 0, 0);
        x.set(5, 1, 0);
        x.run(5);
        int[] due = {2, 1, 0};
        for (int place = 0; place < 3; place++) {
            due("T: behind the ring at(" + place + ")", x.at(place), due[place]);
        }
        due("T: the first is loaded first", x.alarm(2, 3), 0);
        due("T: the second next", x.alarm(1, 3), 1);
    }

    private static void ringsInOrder() {
        SharedComparers x = new SharedComparers();
        x.setWindow(4);
        x.set(9, 1, 0);
        x.set(5, 0, 0);
        x.set(9, 0, 2);
        x.set(20, 0, 0);
        x.correct(25);
        due("T: all ring", x.run(1), 4);
        int[] alarms = {3, 0, 2, 1};
        int[] slips = {6, 17, 17, 21};
        int[] comparers = {1, 0, 0, 0};
        for (int back = 0; back < 4; back++) {
            due("23: alarm, " + back, x.ring(back, 0), alarms[back]);
            due("23: counter, " + back, x.ring(back, 1), 26);
            due("23: slip, " + back, x.ring(back, 2), slips[back]);
            due("23: comparer, " + back, x.ring(back, 3), comparers[back]);
        }
        due("T: only the one with a period is left", x.count(2), 1);
        due("T: its time is behind the counter", x.alarm(0, 0), 27);
    }

    private static void missed() {
        SharedComparers x = new SharedComparers();
        x.set(10, 5, 0);
        x.correct(24);
        due("T: one ring", x.run(1), 1);
        due("T: missed 15, 20 and 25", x.count(9), 3);
        due("T: next", x.alarm(0, 0), 30);
        x.correct(3);
        due("T: not missed by one", x.run(1), 0);
        due("T: next one", x.run(1), 1);
        due("T: none missed", x.count(9), 3);
        due("T: slip", x.ring(0, 2), 0);
        x.correct(4);
        x.run(1);
        due("T: at most one period late", x.ring(0, 2), 0);
        due("T: still none missed", x.count(9), 3);
        x.correct(9);
        x.run(1);
        due("T: its time is the counter: missed", x.count(9), 4);
        due("T: 5 behind", x.ring(0, 2), 5);
        due("T: 50 is next", x.alarm(0, 0), 50);
    }

    private static void sharing() {
        SharedComparers x = new SharedComparers();
        x.setComparers(3);
        x.setWindow(10);
        x.set(100, 0, 0);
        x.set(120, 0, 0);
        due("S: another comparer", x.alarm(1, 3), 1);
        x.set(110, 0, 0);
        due("S: the first of two that fit", x.alarm(2, 3), 0);
        due("S: its count", x.comparer(0, 0), 110);
        x.set(111, 0, 0);
        due("S: too far from the least", x.alarm(3, 3), 1);
        x.set(109, 0, 0);
        due("S: too far from the greatest of the second, but not of the first", x.alarm(4, 3), 0);
        x.set(99, 0, 0);
        due("S: too far from both", x.alarm(5, 3), 2);
        due("S: nothing free", x.count(5), 0);
        due("S: three loaded", x.count(10), 3);
        due("S: the count stays for an earlier one", x.comparer(2, 0), 99);
    }

    private static void joiningGoesFirst() {
        SharedComparers x = new SharedComparers();
        x.setLoading(5);
        x.set(40, 0, 0);
        x.run(2);
        x.set(40, 0, 0);
        due("S: joins although another is free", x.alarm(1, 3), 0);
        due("S: goes on loading", x.comparer(0, 2), 3);
        due("S: nobody behind is looked at", x.count(4), 0);
        x.set(50, 0, 0);
        x.set(60, 0, 0);
        x.set(70, 0, 0);
        due("S: later ones wait", x.count(4), 2);
        x.setWindow(10);
        due("S: 60 joins 50, 70 waits", x.count(4), 1);
        due("S: comparer of 60", x.alarm(3, 3), 1);
        x.set(72, 0, 0);
        due("S: 72 waits too", x.count(4), 2);
    }

    private static void takingOver() {
        SharedComparers x = new SharedComparers();
        x.setComparers(3);
        x.set(30, 0, 0);
        x.set(50, 0, 0);
        x.set(40, 0, 0);
        x.set(35, 0, 0);
        due("S: the greatest count is taken over", x.alarm(3, 3), 1);
        due("S: its alarm has none", x.alarm(1, 3), NONE);
        x.set(45, 0, 0);
        due("S: not by a later one", x.alarm(4, 3), NONE);
        due("S: counted once", x.count(11), 1);
        due("S: four loaded", x.count(10), 4);
        SharedComparers y = new SharedComparers();
        y.setComparers(3);
        y.set(50, 0, 0);
        y.set(60, 0, 0);
        y.correct(1);
        y.set(70, 0, 0);
        y.setWindow(10);
        y.move(2, 61);
        due("S: 61 joins 60", y.alarm(2, 3), 1);
        y.set(39, 0, 0);
        y.set(20, 0, 0);
        due("S: the greatest count is taken over, that of a group", y.alarm(4, 3), 1);
        due("S: 60 joins 50 then", y.alarm(1, 3), 0);
        due("S: 61 has none", y.alarm(2, 3), NONE);
    }

    /** Two comparers come to have the same count as the window grows less. */
    private static void takingOverTheLowest() {
        SharedComparers x = new SharedComparers();
        x.setWindow(5);
        x.set(10, 0, 0);
        x.set(20, 0, 0);
        x.set(15, 0, 0);
        x.move(0, 25);
        due("S: 25 joins the second", x.alarm(0, 3), 1);
        x.move(2, 30);
        due("S: 30 is loaded for the first", x.alarm(2, 3), 0);
        x.setWindow(4);
        x.set(25, 0, 0);
        due("S: 25 takes over from 30", x.alarm(3, 3), 0);
        due("S: both have the same count", x.comparer(0, 0), x.comparer(1, 0));
        x.set(1, 0, 0);
        due("S: the lowest of the greatest count", x.alarm(4, 3), 0);
        due("S: not the second", x.alarm(0, 3), 1);
    }

    private static void takingOverNeedsTicks() {
        SharedComparers x = new SharedComparers();
        x.setComparers(2);
        x.setLoading(6);
        x.set(30, 0, 0);
        x.set(30, 0, 0);
        due("S: both share", x.alarm(1, 3), 0);
        x.set(32, 0, 0);
        x.run(4);
        x.set(20, 0, 0);
        due("S: taken over", x.alarm(3, 3), 1);
        due("S: loading anew", x.comparer(1, 2), 6);
        due("S: the other goes on", x.comparer(0, 2), 2);
        x.set(10, 0, 0);
        due("S: the other is taken over", x.alarm(4, 3), 0);
        due("S: both of its alarms have none", x.count(4), 3);
    }

    /** Twenty alarms, each of which takes over from the latest. */
    private static void fullChip() {
        SharedComparers x = new SharedComparers();
        for (int i = 0; i < 20; i++) {
            due("2: number", x.set(100 - i, 0, 0), i);
        }
        due("S: taken over", x.count(11), 18);
        due("S: without", x.count(4), 18);
        due("S: the first", x.at(0), 19);
        due("S: the last", x.at(19), 0);
        due("S: the last has none", x.alarm(0, 3), NONE);
        due("S: first of the first comparer", x.comparer(0, 3), 18);
        due("S: first of the second", x.comparer(1, 3), 19);
        due("T: all ring in their time", x.run(100), 20);
        due("T: none was late", x.count(7), 0);
        due("T: each was loaded once more", x.count(10), 38);
    }

    private static void takingOverSendsAllOff() {
        SharedComparers x = new SharedComparers();
        x.setComparers(1);
        x.setWindow(5);
        x.set(20, 0, 0);
        x.set(25, 0, 0);
        x.set(18, 0, 0);
        due("S: 18 takes over", x.count(11), 1);
        due("S: and 20 joins it", x.alarm(0, 3), 0);
        due("S: 25 does not", x.alarm(1, 3), NONE);
        due("S: the count", x.comparer(0, 0), 20);
        due("S: two loaded", x.count(10), 2);
        SharedComparers y = new SharedComparers();
        y.setWindow(2);
        y.set(40, 0, 0);
        y.set(42, 0, 0);
        y.set(43, 0, 0);
        y.set(10, 0, 0);
        due("S: 10 takes the second", y.alarm(3, 3), 1);
        due("S: 43 has none", y.alarm(2, 3), NONE);
        y.cancel(0);
        due("S: with 40 gone 43 joins 42", y.alarm(2, 3), 0);
        due("S: count of both", y.comparer(0, 0), 43);
    }
}
