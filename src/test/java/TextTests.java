/** Promises 3, 12 and 13: the text, and the places of its faults. */
public final class TextTests {
    private static final Checks CHECKS = new Checks("TextTests");

    private TextTests() {
    }

    public static void main(String[] args) {
        faults();
        goodLists();
        typing();
        CHECKS.close();
    }

    private static void fault(String text, int place) {
        SharedComparers x = new SharedComparers();
        AlarmTests.typeText(x, text);
        CHECKS.due("3: the fault of \"" + text + "\"", x.setAll(), -1100 - place);
        CHECKS.due("3: nothing is set by \"" + text + "\"", x.count(3), 0);
        CHECKS.due("3: nothing is recorded by \"" + text + "\"", x.count(16), 0);
    }

    private static void good(String text, int alarms) {
        SharedComparers x = new SharedComparers();
        AlarmTests.typeText(x, text);
        CHECKS.due("3: the list \"" + text + "\"", x.setAll(), alarms);
    }

    private static void faults() {
        fault("", 0);
        fault(";", 0);
        fault("/", 0);
        fault("!", 0);
        fault("-1", 0);
        fault(" 1", 0);
        fault("x", 0);
        fault("00", 1);
        fault("01", 1);
        fault("1 ", 1);
        fault("100000", 5);
        fault("999990", 5);
        fault("1/", 2);
        fault("1/0", 2);
        fault("1/x", 2);
        fault("1//", 2);
        fault("1/10000", 6);
        fault("1/99990", 6);
        fault("1/5/5", 3);
        fault("1!", 2);
        fault("1!0", 2);
        fault("1!4", 2);
        fault("1!9", 2);
        fault("1!11", 3);
        fault("1!3/4", 3);
        fault("1!3!3", 3);
        fault("1/!2", 2);
        fault("1;", 2);
        fault("1;;2", 2);
        fault("1;2;", 4);
        fault("1;/2", 2);
        fault("1;2x", 3);
        fault("1/2!3;4/5!6", 10);
        fault("1" + (char) 0, 1);
        fault("1" + (char) 0x661, 1);
        fault("" + (char) 65535, 0);
        fault("0;0;0;0;0;0;0;0;0;0;0;0;0;0;0;0;0;0;0;0;0;0;0;0;0;0;0;0;0;0;", 60);
    }

    private static void goodLists() {
        good("0", 1);
        good("99999", 1);
        good("10", 1);
        good("0/1", 1);
        good("0/9999", 1);
        good("0!1", 1);
        good("0!2", 1);
        good("0!3", 1);
        good("7/8!1;0;99999/9999!3;10/20", 4);
    }

    private static void typing() {
        SharedComparers x = new SharedComparers();
        CHECKS.due("13: empty", x.clearText(), 0);
        for (int i = 1; i <= 60; i++) {
            CHECKS.due("12: length", x.type((char) (i * 1000)), i);
        }
        CHECKS.due("12: the 61st", x.type('1'), SharedComparers.FULL);
        CHECKS.due("12: not taken", x.count(17), 60);
        CHECKS.due("12: no act", x.count(16), 0);
        CHECKS.due("13: length that it had", x.clearText(), 60);
        CHECKS.due("13: no act", x.count(16), 0);
        CHECKS.due("13: empty again", x.count(17), 0);
        CHECKS.due("12: the first again", x.type('1'), 1);
        CHECKS.due("3: read", x.setAll(), 1);
        CHECKS.due("3: stays", x.count(17), 1);
        CHECKS.due("14: undo", x.undo(), 0);
        CHECKS.due("14: the text is no part of a state", x.count(17), 1);
    }
}
