/** Promises 17 to 24: what is told. */
public final class ToldTests {
    private static final int UNKNOWN = SharedComparers.UNKNOWN;
    private static final int BAD_VALUE = SharedComparers.BAD_VALUE;
    private static final int NONE = SharedComparers.NONE;
    private static final Checks CHECKS = new Checks("ToldTests");

    private ToldTests() {
    }

    public static void main(String[] args) {
        alarm();
        comparer();
        at();
        ringsIn();
        ringsInFar();
        ifComparers();
        ifComparersCountsOnlyTheseTicks();
        fewest();
        fewestOfEqualOnes();
        ring();
        count();
        wildArguments();
        CHECKS.close();
    }

    private static void due(String what, int got, int want) {
        CHECKS.due(what, got, want);
    }

    private static void alarm() {
        SharedComparers x = new SharedComparers();
        due("17: unknown", x.alarm(0, 0), UNKNOWN);
        due("17: unknown before bad", x.alarm(0, 7), UNKNOWN);
        x.set(3, 2, 1);
        due("17: below", x.alarm(0, -1), BAD_VALUE);
        due("17: above", x.alarm(0, 7), BAD_VALUE);
        due("17: time", x.alarm(0, 0), 3);
        due("17: period", x.alarm(0, 1), 2);
        due("17: rank", x.alarm(0, 2), 1);
        due("17: comparer", x.alarm(0, 3), 0);
        due("17: place", x.alarm(0, 4), 0);
        due("17: rang", x.alarm(0, 5), 0);
        due("17: no slip yet", x.alarm(0, 6), NONE);
        x.run(3);
        due("17: rang once", x.alarm(0, 5), 1);
        due("17: slip 0", x.alarm(0, 6), 0);
        due("17: its next time", x.alarm(0, 0), 5);
        x.correct(5);
        x.run(3);
        due("17: rang again", x.alarm(0, 5), 3);
        due("17: the greatest slip", x.alarm(0, 6), 4);
        x.set(10000, 0, 0);
        due("17: place of the later one", x.alarm(1, 4), 1);
    }

    private static void comparer() {
        SharedComparers x = new SharedComparers();
        due("18: negative", x.comparer(-1, 0), UNKNOWN);
        due("18: too great", x.comparer(2, 0), UNKNOWN);
        due("18: unknown before bad", x.comparer(2, 9), UNKNOWN);
        due("18: below", x.comparer(0, -1), BAD_VALUE);
        due("18: above", x.comparer(1, 4), BAD_VALUE);
        due("18: free, count", x.comparer(1, 0), NONE);
        due("18: free, alarms", x.comparer(1, 1), 0);
        due("18: free, loading", x.comparer(1, 2), 0);
        due("18: free, first", x.comparer(1, 3), NONE);
        x.setWindow(3);
        x.setLoading(7);
        x.set(12, 0, 0);
        x.set(10, 0, 0);
        x.set(10, 0, 1);
        due("18: count", x.comparer(0, 0), 12);
        due("18: alarms", x.comparer(0, 1), 3);
        due("18: loading", x.comparer(0, 2), 7);
        due("18: first in the order", x.comparer(0, 3), 2);
        x.setComparers(4);
        due("18: the fourth", x.comparer(3, 1), 0);
    }

    private static void at() {
        SharedComparers x = new SharedComparers();
        due("19: negative", x.at(-1), BAD_VALUE);
        due("19: none", x.at(0), NONE);
        x.set(8, 0, 0);
        x.set(7, 0, 0);
        due("19: first", x.at(0), 1);
        due("19: second", x.at(1), 0);
        due("19: not so many", x.at(2), NONE);
        due("19: far from it", x.at(Integer.MAX_VALUE), NONE);
    }

    private static void ringsIn() {
        SharedComparers x = new SharedComparers();
        due("20: unknown", x.ringsIn(0), UNKNOWN);
        x.setComparers(1);
        x.set(10, 0, 0);
        x.set(6, 0, 0);
        x.set(10, 10, 3);
        due("20: the first", x.ringsIn(1), 6);
        due("20: once the comparer is free", x.ringsIn(0), 10);
        x.setLoading(9);
        due("20: it has to be loaded then", x.ringsIn(0), 15);
        due("20: both share it", x.ringsIn(2), 15);
        x.setDrift(2);
        due("20: with the drift", x.ringsIn(1), 4);
        due("20: nothing changes", x.count(1), 0);
        due("20: nor rings", x.count(6), 0);
        x.run(4);
        due("20: rang", x.ringsIn(1), UNKNOWN);
        due("20: next", x.ringsIn(2), 9);
        x.run(9);
        due("20: one with a period again", x.ringsIn(2), 9);
    }

    private static void ringsInFar() {
        SharedComparers x = new SharedComparers();
        x.set(1000, 0, 0);
        x.set(1001, 0, 0);
        due("20: the thousandth tick", x.ringsIn(0), 1000);
        due("20: not by then", x.ringsIn(1), NONE);
        x.setComparers(1);
        x.setLoading(2);
        x.set(1, 1, 0);
        due("20: one that never has a comparer", x.ringsIn(0), NONE);
    }

    private static void ifComparers() {
        SharedComparers x = new SharedComparers();
        int[][] bad = {{0, 1, 0}, {5, 1, 0}, {1, 0, 0}, {1, 501, 0}, {1, 1, -1}, {1, 1, 4}};
        for (int[] one : bad) {
            due("21: bad", x.ifComparers(one[0], one[1], one[2]), BAD_VALUE);
        }
        due("21: no ring", x.ifComparers(1, 500, 2), 0);
        due("21: one tick", x.ifComparers(4, 1, 0), 0);
        x.setLoading(3);
        x.set(2, 4, 0);
        x.set(3, 0, 0);
        x.set(5, 0, 0);
        // One comparer: 2 rings at 3 (slip 1) and gets 6; 3 rings at 6 (3); 5 at 9 (4); 6 at 12 (6), one missed at 10.
        int[][] want = {{4, 14, 6, 1}, {4, 2, 1, 0}, {4, 1, 1, 0}, {4, 1, 1, 0}};
        for (int many = 1; many <= 4; many++) {
            for (int what = 0; what <= 3; what++) {
                due("21: " + many + " comparers, " + what, x.ifComparers(many, many == 1 ? 12 : 9, what), want[many - 1][what]);
            }
        }
        due("21: comparers stay", x.count(12), 2);
        due("21: ticks stay", x.count(1), 0);
        due("21: nothing loaded", x.count(10), 2);
        due("21: nothing recorded", x.count(16), 4);
    }

    private static void ifComparersCountsOnlyTheseTicks() {
        SharedComparers x = new SharedComparers();
        x.set(1, 1, 0);
        x.correct(50);
        x.run(3);
        due("21: rings", x.ifComparers(2, 10, 0), 10);
        due("21: slips", x.ifComparers(2, 10, 1), 0);
        due("21: the greatest", x.ifComparers(2, 10, 2), 0);
        due("21: missed", x.ifComparers(2, 10, 3), 0);
        x.correct(4);
        due("21: slips of these", x.ifComparers(1, 500, 1), 4);
        due("21: the greatest of these", x.ifComparers(4, 500, 2), 4);
        due("21: missed of these", x.ifComparers(3, 500, 3), 4);
        due("8: before", x.count(8), 50);
        due("9: before", x.count(9), 50);
    }

    private static void fewest() {
        SharedComparers x = new SharedComparers();
        due("22: below", x.fewest(0), BAD_VALUE);
        due("22: above", x.fewest(501), BAD_VALUE);
        due("22: no alarm", x.fewest(500), 1);
        due("22: one tick", x.fewest(1), 1);
        x.setLoading(3);
        x.set(2, 0, 0);
        x.set(3, 0, 0);
        x.set(5, 0, 0);
        due("22: nothing rings yet", x.fewest(2), 1);
        due("22: in three ticks only what rings counts", x.fewest(3), 1);
        due("22: in six ticks the third one would be late", x.fewest(6), 3);
        x.set(5, 0, 0);
        x.set(4, 0, 0);
        due("22: each needs one", x.fewest(20), 4);
        due("22: nothing changes", x.count(12), 2);
    }

    private static void fewestOfEqualOnes() {
        SharedComparers x = new SharedComparers();
        x.setComparers(4);
        x.set(10, 10, 0);
        x.set(15, 10, 0);
        x.set(20, 0, 0);
        due("22: one is as good as four", x.fewest(100), 1);
        x.setLoading(7);
        due("22: two are needed", x.fewest(100), 2);
    }

    private static void ring() {
        SharedComparers x = new SharedComparers();
        due("23: negative", x.ring(-1, 0), BAD_VALUE);
        due("23: what below", x.ring(0, -1), BAD_VALUE);
        due("23: what above", x.ring(0, 4), BAD_VALUE);
        due("23: none yet", x.ring(0, 0), NONE);
        due("23: bad before none", x.ring(8, 4), BAD_VALUE);
        x.set(1, 1, 0);
        x.run(3);
        due("23: the oldest of three", x.ring(2, 1), 1);
        due("23: no fourth", x.ring(3, 1), NONE);
        x.run(9);
        for (int back = 0; back < 8; back++) {
            due("23: counter " + back, x.ring(back, 1), 12 - back);
        }
        due("23: no ninth", x.ring(8, 1), NONE);
        due("23: far back", x.ring(Integer.MAX_VALUE, 1), NONE);
        x.set(14, 0, 0);
        x.correct(3);
        x.run(1);
        due("23: the second comparer rings behind the first", x.ring(0, 0), 1);
        due("23: its comparer", x.ring(0, 3), 1);
        due("23: its slip", x.ring(0, 2), 2);
        due("23: the first", x.ring(1, 0), 0);
        due("23: its comparer", x.ring(1, 3), 0);
        due("23: its slip", x.ring(1, 2), 3);
    }

    private static void count() {
        SharedComparers x = new SharedComparers();
        due("24: below", x.count(-1), BAD_VALUE);
        due("24: above", x.count(18), BAD_VALUE);
        x.setComparers(3);
        x.setWindow(1);
        x.setLoading(2);
        x.setDrift(-4);
        x.type('5');
        x.type('6');
        x.set(4, 0, 0);
        x.set(5, 3, 0);
        x.set(9, 0, 0);
        x.set(30, 0, 0);
        x.set(7, 0, 0);
        // 4 and 5 share, 9 and 30 are loaded, 7 takes over from 30.
        int[] first = {0, 0, 5, 5, 1, 0, 0, 0, 0, 0, 4, 1, 3, 1, 2, -4, 4, 2};
        for (int what = 0; what < 18; what++) {
            due("24: count(" + what + ")", x.count(what), first[what]);
        }
        x.correct(7);
        x.run(3);
        // In tick 2, at 9, all but 30 ring: slips 5 and 4 (8 is missed), 2 (7) and 0 (9).
        int[] then = {10, 3, 2, 5, 0, 1, 4, 11, 5, 1, 6, 1, 3, 1, 2, -4, 4, 2};
        for (int what = 0; what < 18; what++) {
            due("24: then count(" + what + ")", x.count(what), then[what]);
        }
    }

    private static void wildArguments() {
        SharedComparers x = new SharedComparers();
        x.set(5, 0, 0);
        int[] wild = {Integer.MIN_VALUE, Integer.MAX_VALUE};
        for (int w : wild) {
            due("2: wild time", x.set(w, 0, 0), BAD_VALUE);
            due("2: wild period", x.set(0, w, 0), BAD_VALUE);
            due("2: wild rank", x.set(0, 0, w), BAD_VALUE);
            due("4: wild", x.cancel(w), UNKNOWN);
            due("5: wild", x.move(w, 0), UNKNOWN);
            due("5: wild time", x.move(0, w), BAD_VALUE);
            due("6: wild", x.setComparers(w), BAD_VALUE);
            due("7: wild", x.setWindow(w), BAD_VALUE);
            due("8: wild", x.setLoading(w), BAD_VALUE);
            due("9: wild", x.setDrift(w), BAD_VALUE);
            due("10: wild", x.correct(w), BAD_VALUE);
            due("11: wild", x.run(w), BAD_VALUE);
            due("17: wild", x.alarm(w, 0), UNKNOWN);
            due("17: wild what", x.alarm(0, w), BAD_VALUE);
            due("18: wild", x.comparer(w, 0), UNKNOWN);
            due("18: wild what", x.comparer(0, w), BAD_VALUE);
            due("20: wild", x.ringsIn(w), UNKNOWN);
            due("21: wild", x.ifComparers(w, 1, 0), BAD_VALUE);
            due("21: wild ticks", x.ifComparers(1, w, 0), BAD_VALUE);
            due("21: wild what", x.ifComparers(1, 1, w), BAD_VALUE);
            due("22: wild", x.fewest(w), BAD_VALUE);
            due("23: wild what", x.ring(0, w), BAD_VALUE);
            due("24: wild", x.count(w), BAD_VALUE);
        }
        due("19: wild", x.at(Integer.MIN_VALUE), BAD_VALUE);
        due("23: wild", x.ring(Integer.MIN_VALUE, 0), BAD_VALUE);
    }
}
