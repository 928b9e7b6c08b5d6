/** Promises 1 to 5: a new object, and the acts on alarms. */
public final class AlarmTests {
    private static final int UNKNOWN = SharedComparers.UNKNOWN;
    private static final int BAD_VALUE = SharedComparers.BAD_VALUE;
    private static final int FULL = SharedComparers.FULL;
    private static final int NOT_POSSIBLE = SharedComparers.NOT_POSSIBLE;
    private static final int NONE = SharedComparers.NONE;
    private static final Checks CHECKS = new Checks("AlarmTests");

    private AlarmTests() {
    }

    public static void main(String[] args) {
        newObject();
        setAnswers();
        setIsFull();
        setIsFullForEver();
        order();
        setAll();
        setAllErrors();
        setAllIsFull();
        setAllSharesBehindEach();
        cancel();
        cancelShares();
        move();
        moveTakesOff();
        CHECKS.close();
    }

    private static void due(String what, int got, int want) {
        CHECKS.due(what, got, want);
    }

    static void typeText(SharedComparers x, String text) {
        x.clearText();
        for (int i = 0; i < text.length(); i++) {
            x.type(text.charAt(i));
        }
    }

    private static void newObject() {
        SharedComparers x = new SharedComparers();
        for (int what = 0; what <= 17; what++) {
            due("1: count(" + what + ")", x.count(what), what == 5 || what == 12 ? 2 : 0);
        }
        due("1: no alarm", x.at(0), NONE);
        due("1: no snapshot", x.restore(), NONE);
        due("1: no history", x.undo(), NONE);
        due("1: no ring", x.ring(0, 0), NONE);
        due("1: empty text", x.clearText(), 0);
        due("1: second comparer", x.comparer(1, 0), NONE);
        due("1: third comparer", x.comparer(2, 0), UNKNOWN);
    }

    private static void setAnswers() {
        SharedComparers x = new SharedComparers();
        due("2: time below", x.set(-1, 0, 0), BAD_VALUE);
        due("2: time above", x.set(100000, 0, 0), BAD_VALUE);
        due("2: period below", x.set(0, -1, 0), BAD_VALUE);
        due("2: period above", x.set(0, 10000, 0), BAD_VALUE);
        due("2: rank below", x.set(0, 0, -1), BAD_VALUE);
        due("2: rank above", x.set(0, 0, 4), BAD_VALUE);
        due("2: nothing recorded", x.count(16), 0);
        due("2: least", x.set(0, 0, 0), 0);
        due("2: greatest", x.set(99999, 9999, 3), 1);
        due("2: time", x.alarm(1, 0), 99999);
        due("2: period", x.alarm(1, 1), 9999);
        due("2: rank", x.alarm(1, 2), 3);
        due("2: one act each", x.count(16), 2);
        x.run(5);
        due("2: behind the counter", x.set(4, 0, 0), NOT_POSSIBLE);
        due("2: a bad value goes first", x.set(4, 0, 4), BAD_VALUE);
        due("2: at the counter", x.set(5, 0, 0), 2);
        due("2: rings in the next tick", x.run(1), 1);
        due("2: late by one", x.ring(0, 2), 1);
        due("2: numbers do not come again", x.set(9, 0, 0), 3);
    }

    private static void setIsFull() {
        SharedComparers x = new SharedComparers();
        for (int i = 0; i < 20; i++) {
            due("2: room for 20", x.set(10, 0, 0), i);
        }
        due("2: 21st", x.set(10, 0, 0), FULL);
        due("2: bad value before full", x.set(10, 0, 9), BAD_VALUE);
        x.correct(11);
        due("2: not possible before full", x.set(10, 0, 0), NOT_POSSIBLE);
        x.cancel(7);
        due("2: room again", x.set(12, 0, 0), 20);
        due("2: full again", x.set(12, 0, 0), FULL);
    }

    /** 500 alarms in few calls: 20 at once from the text, and all ring in one tick. */
    private static void setIsFullForEver() {
        SharedComparers x = new SharedComparers();
        typeText(x, "0;0;0;0;0;0;0;0;0;0;0;0;0;0;0;0;0;0;0");
        for (int i = 0; i < 26; i++) {
            due("3: nineteen", x.setAll(), 19);
            due("3: ring", x.run(1), 19);
            x.correct(-1);
        }
        due("2: ever", x.count(3), 494);
        due("3: 19 are too many", x.setAll(), FULL);
        for (int i = 0; i < 5; i++) {
            due("2: number", x.set(10, 0, 0), 494 + i);
        }
        typeText(x, "10;10");
        due("3: two are too many", x.setAll(), FULL);
        typeText(x, "10");
        due("3: the 500th", x.setAll(), 6);
        due("2: the 501st", x.set(10, 0, 0), FULL);
        due("3: the 501st", x.setAll(), FULL);
        x.cancel(499);
        due("2: ever stays", x.set(10, 0, 0), FULL);
        x.undo();
        x.undo();
        due("2: undo brings back how many there were", x.set(10, 0, 0), 499);
    }

    private static void order() {
        SharedComparers x = new SharedComparers();
        x.set(7, 0, 1);
        x.set(7, 0, 3);
        x.set(6, 0, 0);
        x.set(7, 0, 3);
        x.set(8, 0, 3);
        int[] due = {2, 1, 3, 0, 4};
        for (int place = 0; place < 5; place++) {
            due("19: at(" + place + ")", x.at(place), due[place]);
            due("17: place of " + due[place], x.alarm(due[place], 4), place);
        }
    }

    private static void setAll() {
        SharedComparers x = new SharedComparers();
        x.set(50, 0, 0);
        typeText(x, "60/7!2;40!3;99999/9999;0");
        due("3: how many", x.setAll(), 5);
        due("3: one act", x.count(16), 2);
        due("3: the text stays", x.count(17), 24);
        int[][] want = {{60, 7, 2}, {40, 0, 3}, {99999, 9999, 0}, {0, 0, 0}};
        for (int i = 0; i < 4; i++) {
            for (int what = 0; what <= 2; what++) {
                due("3: alarm " + (i + 1) + ", " + what, x.alarm(i + 1, what), want[i][what]);
            }
        }
        due("3: undone at once", x.undo(), 1);
        due("3: one is left", x.count(2), 1);
        due("3: again", x.setAll(), 5);
    }

    private static void setAllErrors() {
        SharedComparers x = new SharedComparers();
        due("3: empty text", x.setAll(), -1100);
        x.run(5);
        typeText(x, "9;4;9");
        due("3: a time behind the counter", x.setAll(), NOT_POSSIBLE);
        due("3: nothing is set", x.count(2), 0);
        due("3: nothing recorded", x.count(16), 1);
        typeText(x, "4;");
        due("3: a fault goes first", x.setAll(), -1102);
        typeText(x, "5;6");
        due("3: at the counter", x.setAll(), 2);
    }

    private static void setAllIsFull() {
        SharedComparers x = new SharedComparers();
        typeText(x, "9;9;9;9;9;9;9;9;9;9;9;9;9;9;9;9;9;9;9;9;9");
        due("3: 21 at once", x.setAll(), FULL);
        due("3: none of them", x.count(2), 0);
        typeText(x, "9;9;9;9;9;9;9;9;9;9;9;9;9;9;9;9;9;9;9;9");
        due("3: 20 at once", x.setAll(), 20);
        typeText(x, "9");
        due("3: one more", x.setAll(), FULL);
        x.correct(10);
        due("3: not possible before full", x.setAll(), NOT_POSSIBLE);
        SharedComparers y = new SharedComparers();
        typeText(y, "10;9;9;9;9;9;9;9;9;9;9;9;9;9;9;9;9;9;9;9;9;9;9;9;9;9;9;9;9;9");
        due("3: 60 characters", y.count(17), 60);
        due("3: 30 at once", y.setAll(), FULL);
    }

    private static void setAllSharesBehindEach() {
        SharedComparers x = new SharedComparers();
        typeText(x, "30;20;10");
        due("3: three", x.setAll(), 3);
        due("3: the first was taken over by the third", x.alarm(0, 3), NONE);
        due("3: comparer of the third", x.alarm(2, 3), 0);
        due("3: loaded", x.count(10), 3);
        due("3: taken over", x.count(11), 1);
    }

    private static void cancel() {
        SharedComparers x = new SharedComparers();
        due("4: nothing to cancel", x.cancel(0), UNKNOWN);
        due("4: negative", x.cancel(-1), UNKNOWN);
        x.set(10, 0, 0);
        x.set(20, 0, 0);
        due("4: how many then", x.cancel(0), 1);
        due("4: again", x.cancel(0), UNKNOWN);
        due("4: the other one stays", x.at(0), 1);
        due("4: free", x.comparer(0, 0), NONE);
        due("4: an act", x.count(16), 3);
        due("4: the last", x.cancel(1), 0);
        due("4: NONE is no number", x.cancel(NONE), UNKNOWN);
        x.set(1, 7, 0);
        x.run(1);
        due("4: one that rang", x.alarm(2, 5), 1);
        due("4: it is set still", x.cancel(2), 0);
        due("2: the next one did not ring", x.alarm(x.set(2, 0, 0), 5), 0);
        due("2: and has no slip", x.alarm(3, 6), NONE);
        x.run(1);
        due("4: one that rang once", x.cancel(3), UNKNOWN);
    }

    private static void cancelShares() {
        SharedComparers x = new SharedComparers();
        x.setWindow(5);
        x.setLoading(3);
        x.set(10, 0, 0);
        x.set(15, 0, 0);
        x.set(12, 0, 0);
        due("4: shared count", x.comparer(0, 0), 15);
        due("4: shared by", x.comparer(0, 1), 3);
        x.run(1);
        x.cancel(1);
        due("4: count of those left", x.comparer(0, 0), 12);
        due("4: it goes on loading", x.comparer(0, 2), 2);
        due("4: two left", x.comparer(0, 1), 2);
        x.cancel(0);
        due("4: the greatest stays", x.comparer(0, 0), 12);
        x.set(100, 0, 0);
        x.set(200, 0, 0);
        due("4: without", x.alarm(4, 3), NONE);
        x.cancel(2);
        due("4: the free one is shared out", x.alarm(4, 3), 0);
        due("4: and loaded anew", x.comparer(0, 2), 3);
    }

    private static void move() {
        SharedComparers x = new SharedComparers();
        x.set(10, 0, 0);
        x.set(20, 0, 0);
        due("5: unknown", x.move(2, 5), UNKNOWN);
        due("5: unknown before bad", x.move(2, -1), UNKNOWN);
        due("5: below", x.move(0, -1), BAD_VALUE);
        due("5: above", x.move(0, 100000), BAD_VALUE);
        due("5: it is so", x.move(0, 10), NONE);
        due("5: nothing recorded", x.count(16), 2);
        due("5: the previous time", x.move(0, 30), 10);
        due("5: recorded", x.count(16), 3);
        due("5: the time", x.alarm(0, 0), 30);
        due("5: the order", x.at(0), 1);
        due("5: least", x.move(1, 0), 20);
        due("5: and back", x.move(1, 20), 0);
        x.correct(15);
        due("5: behind the counter", x.move(0, 14), NOT_POSSIBLE);
        due("5: at the counter", x.move(0, 15), 30);
        x.correct(1);
        due("5: not possible before none", x.move(0, 15), NOT_POSSIBLE);
        due("5: greatest", x.move(0, 99999), 15);
    }

    private static void moveTakesOff() {
        SharedComparers x = new SharedComparers();
        x.setWindow(3);
        x.setLoading(2);
        x.set(10, 4, 1);
        x.set(13, 0, 0);
        x.run(2);
        due("5: loaded", x.comparer(0, 2), 0);
        due("5: move", x.move(1, 50), 13);
        due("5: count of the one left", x.comparer(0, 0), 10);
        due("5: not loaded anew", x.comparer(0, 2), 0);
        due("5: its new comparer", x.alarm(1, 3), 1);
        due("5: loading", x.comparer(1, 2), 2);
        due("5: back", x.move(1, 12), 50);
        due("5: it joins", x.alarm(1, 3), 0);
        due("5: the other is free", x.comparer(1, 1), 0);
        due("5: a free one is not loading", x.comparer(1, 2), 0);
        x.move(0, 11);
        due("5: period", x.alarm(0, 1), 4);
        due("5: rank", x.alarm(0, 2), 1);
        due("5: alone it is taken off and joins again", x.alarm(0, 3), 0);
    }
}
