/** Promises 14 to 16: undo and the snapshot. */
public final class HistoryTests {
    private static final int NONE = SharedComparers.NONE;
    private static final Checks CHECKS = new Checks("HistoryTests");

    private HistoryTests() {
    }

    public static void main(String[] args) {
        undo();
        undoBringsAllBack();
        undoBringsRingsBack();
        fourStates();
        whatIsNoAct();
        keep();
        snapshotStays();
        CHECKS.close();
    }

    private static void due(String what, int got, int want) {
        CHECKS.due(what, got, want);
    }

    private static void undo() {
        SharedComparers x = new SharedComparers();
        due("14: empty", x.undo(), NONE);
        x.set(5, 0, 0);
        x.set(6, 0, 0);
        due("14: one is left", x.undo(), 1);
        due("14: one alarm", x.count(2), 1);
        due("14: numbers as they were", x.set(7, 0, 0), 1);
        due("14: none is left but one", x.undo(), 1);
        due("14: none", x.undo(), 0);
        due("14: no alarm", x.count(3), 0);
        due("14: empty again", x.undo(), NONE);
    }

    private static SharedComparers busyChip() {
        SharedComparers x = new SharedComparers();
        x.setComparers(3);
        x.setWindow(2);
        x.setLoading(1);
        x.setDrift(5);
        x.set(4, 3, 1);
        x.set(5, 0, 2);
        x.set(9, 0, 0);
        x.set(20, 7, 3);
        x.set(8, 2, 0);
        x.run(6);
        x.set(30, 0, 0);
        return x;
    }

    /** All that can be told of a state, one behind the other. */
    private static String told(SharedComparers x) {
        StringBuilder told = new StringBuilder();
        for (int what = 0; what <= 15; what++) {
            told.append(x.count(what)).append(' ');
        }
        for (int alarm = 0; alarm < 8; alarm++) {
            for (int what = 0; what <= 6; what++) {
                told.append(x.alarm(alarm, what)).append(' ');
            }
        }
        for (int comparer = 0; comparer < 4; comparer++) {
            for (int what = 0; what <= 3; what++) {
                told.append(x.comparer(comparer, what)).append(' ');
            }
        }
        for (int back = 0; back < 8; back++) {
            for (int what = 0; what <= 3; what++) {
                told.append(x.ring(back, what)).append(' ');
            }
        }
        return told.toString();
    }

    private static void undoBringsAllBack() {
        for (int act = 0; act < 11; act++) {
            SharedComparers x = busyChip();
            String before = told(x);
            int answer = act(x, act);
            CHECKS.holds("act " + act + " is no error", answer >= 0 || act == 5 && answer == -1);
            CHECKS.holds("act " + act + " changes the state", !told(x).equals(before));
            due("14: undo of act " + act, x.undo(), 3);
            CHECKS.holds("14: undo of act " + act + " brings all back", told(x).equals(before));
        }
    }

    private static int act(SharedComparers x, int act) {
        switch (act) {
            case 0:
                return x.set(10, 1, 1);
            case 1:
                AlarmTests.typeText(x, "10/4;11!2");
                return x.setAll();
            case 2:
                return x.cancel(3);
            case 3:
                return x.move(3, 10);
            case 4:
                return x.setComparers(1);
            case 5:
                return x.setDrift(-3) == 5 ? -1 : -2;
            case 6:
                return x.setWindow(20);
            case 7:
                return x.setLoading(9);
            case 8:
                return x.correct(9);
            case 9:
                return x.run(40);
            default:
                return x.set(7, 0, 0);
        }
    }

    private static void undoBringsRingsBack() {
        SharedComparers x = new SharedComparers();
        x.set(1, 1, 0);
        x.run(12);
        x.correct(100);
        due("14: late", x.run(20), 20);
        due("14: the greatest slip", x.count(8), 100);
        due("14: missed", x.count(9), 100);
        x.undo();
        due("14: the greatest slip before", x.count(8), 0);
        due("14: rings before", x.count(6), 12);
        for (int back = 0; back < 8; back++) {
            due("14: ring(" + back + ") before", x.ring(back, 1), 12 - back);
        }
    }

    private static void fourStates() {
        SharedComparers x = new SharedComparers();
        for (int i = 1; i <= 6; i++) {
            x.run(1);
            due("16: states", x.count(16), Math.min(i, 4));
        }
        for (int left = 3; left >= 0; left--) {
            due("14: left", x.undo(), left);
            due("14: the counter then", x.count(0), 2 + left);
        }
        due("14: the oldest was dropped", x.undo(), NONE);
        due("14: the counter stays", x.count(0), 2);
        x.run(1);
        due("14: recorded again", x.count(16), 1);
    }

    private static void whatIsNoAct() {
        SharedComparers x = new SharedComparers();
        x.set(9, 0, 0);
        x.run(1);
        x.type('7');
        x.clearText();
        x.type('8');
        x.keep();
        x.ringsIn(0);
        x.ifComparers(3, 20, 1);
        x.fewest(20);
        due("what is told changes nothing", x.count(16), 2);
        due("14: undo", x.undo(), 1);
        due("14: undo is no act", x.count(16), 1);
        due("14: the text stays", x.count(17), 1);
        due("16: errors record nothing", x.set(-1, 0, 0), SharedComparers.BAD_VALUE);
        x.cancel(7);
        x.move(7, 1);
        x.setComparers(2);
        x.setWindow(0);
        x.setLoading(0);
        x.setDrift(0);
        x.correct(0);
        x.run(0);
        due("16: still one", x.count(16), 1);
    }

    private static void keep() {
        SharedComparers x = busyChip();
        due("16: no snapshot", x.restore(), NONE);
        due("16: nothing recorded", x.count(16), 4);
        String before = told(x);
        due("15: the counter", x.keep(), 7);
        x.run(30);
        x.setComparers(1);
        String later = told(x);
        due("16: the counter of the snapshot", x.restore(), 7);
        CHECKS.holds("16: all is as it was", told(x).equals(before));
        due("16: an act", x.undo(), 3);
        CHECKS.holds("14: undo of restore", told(x).equals(later));
    }

    private static void snapshotStays() {
        SharedComparers x = new SharedComparers();
        due("15: at first", x.keep(), 0);
        x.run(3);
        due("16: restore", x.restore(), 0);
        x.run(4);
        due("16: it stays", x.restore(), 0);
        due("16: it is so, but recorded", x.restore(), 0);
        due("16: four states", x.count(16), 4);
        due("14: undo of the second restore", x.undo(), 3);
        due("14: as it was", x.count(0), 0);
        due("14: undo of the first", x.undo(), 2);
        due("14: the counter before", x.count(0), 4);
        due("15: in place of the one that was", x.keep(), 4);
        x.run(10);
        x.undo();
        x.undo();
        due("14: the snapshot is no part of a state", x.restore(), 4);
    }
}
