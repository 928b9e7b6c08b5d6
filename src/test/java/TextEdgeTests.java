/** The bounds that the chapter "TEXTS" and promises 12 and 13 name. */
public final class TextEdgeTests {
    private static final Edges EDGES = new Edges("TextEdgeTests");
    private static final String THIRTY = "0;0;0;0;0;0;0;0;0;0;0;0;0;0;0;0;0;0;0;0;0;0;0;0;0;0;0;0;0;0";

    private TextEdgeTests() {
    }

    public static void main(String[] args) {
        room();
        lists();
        times();
        periods();
        ranks();
        zerosInFront();
        tooGreat();
        faults();
        EDGES.close();
    }

    private static String good(String text, int alarms) {
        return "text(" + text + ") setAll() " + alarms;
    }

    private static String fault(String text, int place) {
        return "text(" + text + ") setAll() " + (-1100 - place) + " count(17) " + text.length() + " count(2) 0";
    }

    private static void room() {
        EDGES.edge("TEXTS", "There is a text of at most 60 characters, empty at first.",
            "count(17) 0 clearText() 0 setAll() -1100",
            "text(" + THIRTY + ") count(17) 59 type(59) 60 type(48) FULL count(17) 60 setAll() -1160");
        EDGES.edge("Promise 12", "Returns the length of the text then; FULL if it has 60 characters.",
            "type(49) 1 type(50) 2 count(16) 0 setAll() 1 alarm(0,0) 12",
            "59 x type(48)\ntype(48) 60 type(48) FULL count(17) 60 clearText() 60 type(55) 1 setAll() 1 alarm(0,0) 7");
        EDGES.edge("Promise 12", "`character`: any character",
            "type(0) 1 type(255) 2 type(256) 3 type(65535) 4 type(10) 5 type(32) 6 setAll() -1100",
            "type(49) type(0) 2 setAll() -1101", "type(49) type(65535) 2 setAll() -1101", "type(49) type(32) 2 setAll() -1101",
            "type(1633) 1 setAll() -1100", "type(49) type(1633) 2 setAll() -1101", "type(65297) 1 setAll() -1100");
        EDGES.edge("Promise 13", "Returns the length that it had.",
            "clearText() 0 type(49) clearText() 1 clearText() 0 count(17) 0 count(16) 0 setAll() -1100");
    }

    private static void lists() {
        EDGES.edge("TEXTS", "A list of alarms is one or more alarms with \";\" between two", good("5", 1), good("5;6", 2),
            good("5;5;5;5;5;5;5;5;5;5;5;5;5;5;5;5;5;5;5;5", 20), "text(" + THIRTY + ") setAll() FULL",
            fault("", 0), fault(";", 0), fault(";5", 0), fault("5;", 2), fault("5;;6", 2), fault("5;6;", 4), fault("5,6", 1));
        EDGES.edge("TEXTS", "perhaps \"/\" and a period (1 to 9999), and perhaps \"!\" and a rank",
            "text(5) setAll() 1 alarm(0,1) 0 alarm(0,2) 0", "text(5/7) setAll() 1 alarm(0,1) 7 alarm(0,2) 0",
            "text(5!2) setAll() 1 alarm(0,1) 0 alarm(0,2) 2", "text(5/7!2) setAll() 1 alarm(0,1) 7 alarm(0,2) 2",
            "text(5/7!2;6) setAll() 2 alarm(1,1) 0 alarm(1,2) 0",
            fault("5!2/7", 3), fault("5/7/7", 3), fault("5!2!2", 3), fault("5/!2", 2), fault("5!/7", 2), fault("5//7", 2));
    }

    private static void times() {
        EDGES.edge("TEXTS", "a time (0 to 99999)", "text(0) setAll() 1 alarm(0,0) 0", "text(99999) setAll() 1 alarm(0,0) 99999",
            "text(9) setAll() 1 alarm(0,0) 9", "text(10) setAll() 1 alarm(0,0) 10", fault("100000", 5), fault("99999;100000", 11),
            fault("-1", 0), fault("+1", 0), fault("/5", 0), fault("!1", 0), fault(":", 0), fault("5:", 1), fault("5/:", 2));
    }

    private static void periods() {
        EDGES.edge("TEXTS", "a period (1 to 9999)", "text(5/1) setAll() 1 alarm(0,1) 1", "text(5/9999) setAll() 1 alarm(0,1) 9999",
            "text(5/10) setAll() 1 alarm(0,1) 10", fault("5/0", 2), fault("5/10000", 6), fault("5/", 2), fault("5/;6", 2));
    }

    private static void ranks() {
        EDGES.edge("TEXTS", "a rank (1 to 3; without it 0)", "text(5!1) setAll() 1 alarm(0,2) 1", "text(5!3) setAll() 1 alarm(0,2) 3",
            "text(5) setAll() 1 alarm(0,2) 0", fault("5!0", 2), fault("5!4", 2), fault("5!9", 2), fault("5!", 2), fault("5!;6", 2),
            fault("5!10", 3), fault("5!33", 3));
    }

    private static void zerosInFront() {
        EDGES.edge("TEXTS", "Numbers have no zero in front unless they are the single digit 0", good("0", 1), good("0;0", 2),
            good("0/5", 1), good("0!2", 1), good("100", 1), good("10/100", 1), fault("00", 1), fault("01", 1), fault("5;07", 3),
            fault("0x", 1));
        EDGES.edge("TEXTS", "one whose range begins at 1 does not begin with 0",
            fault("5/0", 2), fault("5/05", 2), fault("5!0", 2), fault("5!02", 2), fault("5/7!0", 4));
    }

    private static void tooGreat() {
        EDGES.edge("TEXTS", "a digit by which a number would be greater than told is not allowed",
            good("99999", 1), fault("999990", 5), fault("100000", 5), fault("99999/10000", 10), fault("5/99990", 6),
            good("5/9999", 1), good("5/9999!3", 1), fault("5!4", 2), fault("5!12", 3), fault("5/7!31", 5),
            fault("100001", 5), fault("100009", 5), fault("5/10001", 6), fault("5!17", 3), fault("5!19", 3),
            fault("1000000000000000000000000000000000000000000000000000000000", 5),
            fault("99999999999999999999999999999999999999999999999999999999999", 5));
    }

    private static void faults() {
        EDGES.edge("TEXTS", "The fault of the text is the index, from 0, of the first character that is not allowed at its place",
            fault("x", 0), fault("5x", 1), fault("5/x", 2), fault("5!x", 2), fault("5;x", 2), fault("5/6x", 3), fault("5/6!x", 4),
            fault("5/6!3x", 5), fault("5x;x", 1), fault("12345x;", 5), fault("5;6;7;x;", 6));
        EDGES.edge("TEXTS", "or the length of the text if it ends too early (the empty text does)",
            fault("", 0), fault("5/", 2), fault("5!", 2), fault("5/6!", 4), fault("5;", 2), fault("5;6/", 4), fault("5/6!3;", 6),
            fault(THIRTY + ";", 60), fault("99999/9999!3;99999/9999!3;99999/9999!3;99999/9999!3;12345/7!", 60));
    }
}
