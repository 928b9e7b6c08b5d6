/** The bounds that promises 1 to 11 name: a new object, the acts on alarms and on the chip. */
public final class ActEdgeTests {
    private static final Edges EDGES = new Edges("ActEdgeTests");
    private static final String TWENTY_AT_NINE = "9;9;9;9;9;9;9;9;9;9;9;9;9;9;9;9;9;9;9;9";

    private ActEdgeTests() {
    }

    public static void main(String[] args) {
        newObject();
        set();
        setIsRefused();
        setAll();
        setAllIsFull();
        cancel();
        cancelLeavesTheComparer();
        move();
        moveIsRefused();
        setComparers();
        setWindow();
        setLoading();
        setDrift();
        correct();
        run();
        EDGES.close();
    }

    private static void newObject() {
        EDGES.edge("Promise 1", "Creates a chip with two comparers and without alarms.",
            "count(12) 2 count(5) 2 comparer(0,0) NONE comparer(1,0) NONE comparer(2,0) UNKNOWN",
            "count(2) 0 count(3) 0 count(4) 0 at(0) NONE alarm(0,0) UNKNOWN cancel(0) UNKNOWN set(1,0,0) 0",
            "count(0) 0 count(1) 0 count(6) 0 count(7) 0 count(8) 0 count(9) 0 count(10) 0 count(11) 0 ring(0,0) NONE",
            "count(13) 0 count(14) 0 count(15) 0 count(16) 0 count(17) 0 undo() NONE restore() NONE clearText() 0");
    }

    private static void set() {
        EDGES.edge("Promise 2", "`time`: 0 to 99999",
            "set(-1,0,0) BAD_VALUE set(0,0,0) 0 alarm(0,0) 0",
            "set(100000,0,0) BAD_VALUE set(99999,0,0) 0 alarm(0,0) 99999",
            "set(-2147483648,0,0) BAD_VALUE set(2147483647,0,0) BAD_VALUE");
        EDGES.edge("Promise 2", "`period`: 0 to 9999",
            "set(5,-1,0) BAD_VALUE set(5,0,0) 0 alarm(0,1) 0",
            "set(5,10000,0) BAD_VALUE set(5,9999,0) 0 alarm(0,1) 9999",
            "set(5,-2147483648,0) BAD_VALUE set(5,2147483647,0) BAD_VALUE");
        EDGES.edge("Promise 2", "`rank`: 0 to 3",
            "set(5,0,-1) BAD_VALUE set(5,0,0) 0 alarm(0,2) 0",
            "set(5,0,4) BAD_VALUE set(5,0,3) 0 alarm(0,2) 3",
            "set(5,0,-2147483648) BAD_VALUE set(5,0,2147483647) BAD_VALUE");
        EDGES.edge("Promise 2", "Sets an alarm. This is an act.", "set(5,0,0) 0 count(16) 1 undo() 0 count(2) 0");
    }

    private static void setIsRefused() {
        EDGES.edge("Promise 2", "NOT_POSSIBLE if its time is less than the counter",
            "run(5) set(4,0,0) NOT_POSSIBLE set(5,0,0) 0 run(1) 1 ring(0,2) 1",
            "run(5) set(0,0,0) NOT_POSSIBLE set(4,9,3) NOT_POSSIBLE set(6,0,0) 0");
        EDGES.edge("Promise 2", "FULL if there are 20, or there were 500",
            """
            20 x set(9,0,0)
            set(9,0,0) FULL cancel(0) 19 set(9,0,0) 20
            """,
            """
            text(0;0;0;0;0;0;0;0;0;0;0;0;0;0;0;0;0;0;0;0)
            24 x setAll() run(1) correct(-1)
            19 x set(0,0,0)
            run(1) correct(-1) set(0,0,0) 499 set(0,0,0) FULL cancel(499) 0 set(0,0,0) FULL
            """);
        EDGES.edge("Promise 2", "Returns its number; BAD_VALUE; NOT_POSSIBLE if its time is less than the counter; FULL",
            "run(5) set(4,0,4) BAD_VALUE set(-1,0,0) BAD_VALUE set(4,-1,0) BAD_VALUE",
            """
            20 x set(9,0,0)
            set(-1,0,0) BAD_VALUE set(9,10000,0) BAD_VALUE set(9,0,4) BAD_VALUE
            correct(10) set(9,0,0) NOT_POSSIBLE set(10,0,0) FULL
            """,
            """
            text(0;0;0;0;0;0;0;0;0;0;0;0;0;0;0;0;0;0;0;0)
            25 x setAll() run(1) correct(-1)
            set(0,0,4) BAD_VALUE set(0,0,0) FULL run(1) set(0,0,0) NOT_POSSIBLE
            """);
    }

    private static void setAll() {
        EDGES.edge("Promise 3", "Sets the alarms of the text, which stays, one after the other; all of them, or none. This is one act.",
            "text(7) setAll() 1 count(17) 1 count(16) 1 setAll() 2 undo() 1 undo() 0 count(2) 0",
            "text(9;8/3;7!2) setAll() 3 count(16) 1 undo() 0 count(2) 0 count(3) 0",
            "set(3,0,0) text(9;8) setAll() 3 alarm(1,0) 9 alarm(2,0) 8 alarm(1,1) 0 alarm(1,2) 0",
            "run(5) text(9;8;4) setAll() NOT_POSSIBLE count(2) 0 text(9;8;x) setAll() -1104 count(2) 0");
        EDGES.edge("Promise 3", "(Comparers are shared out behind each of them.)",
            "setComparers(1) text(9;8;7) setAll() 3 count(10) 3 count(11) 2 alarm(2,3) 0",
            "setComparers(1) text(7;8;9) setAll() 3 count(10) 1 count(11) 0 alarm(0,3) 0");
        EDGES.edge("Promise 3", "-1100 minus the fault of the text if it has one (which is an error)",
            "setAll() -1100 count(16) 0", "text(x) setAll() -1100", "text(1;) setAll() -1102", "text(1;2x) setAll() -1103",
            "text(0;0;0;0;0;0;0;0;0;0;0;0;0;0;0;0;0;0;0;0;0;0;0;0;0;0;0;0;0;0;) setAll() -1160");
        EDGES.edge("Promise 3", "NOT_POSSIBLE if any time is less than the counter",
            "run(5) text(4) setAll() NOT_POSSIBLE", "run(5) text(5) setAll() 1",
            "run(5) text(4;9) setAll() NOT_POSSIBLE", "run(5) text(9;4) setAll() NOT_POSSIBLE",
            "run(5) text(9;0;9) setAll() NOT_POSSIBLE", "run(5) text(5;6;5) setAll() 3");
    }

    private static void setAllIsFull() {
        EDGES.edge("Promise 3", "FULL if there would be more than 20, or more than 500 ever",
            "text(" + TWENTY_AT_NINE + ") setAll() 20 text(9) setAll() FULL",
            "text(" + TWENTY_AT_NINE + ";9) setAll() FULL count(2) 0 set(9,0,0) 0",
            "set(9,0,0) text(" + TWENTY_AT_NINE + ") setAll() FULL cancel(0) setAll() 20",
            """
            text(0;0;0;0;0;0;0;0;0;0;0;0;0;0;0;0;0;0;0;0)
            24 x setAll() run(1) correct(-1)
            set(0,0,0) run(1) correct(-1) setAll() FULL text(0;0;0;0;0;0;0;0;0;0;0;0;0;0;0;0;0;0;0) setAll() 19
            count(3) 500 text(0) setAll() FULL
            """);
        EDGES.edge("Promise 3", "is less than the counter; FULL if there would be more than 20",
            "text(" + TWENTY_AT_NINE + ") setAll() run(10) text(9/) setAll() -1102 text(9) setAll() NOT_POSSIBLE",
            "text(" + TWENTY_AT_NINE + ";9x) setAll() -1141",
            "text(" + TWENTY_AT_NINE + ";9) correct(10) setAll() NOT_POSSIBLE correct(-1) setAll() FULL",
            "text(" + TWENTY_AT_NINE + ") setAll() 20 text(9/) setAll() -1102 text(9) setAll() FULL");
    }

    private static void cancel() {
        EDGES.edge("Promise 4", "Returns how many are set then; UNKNOWN.",
            "cancel(0) UNKNOWN cancel(-1) UNKNOWN",
            """
            set(5,0,0) set(6,0,0) cancel(2) UNKNOWN cancel(-1) UNKNOWN cancel(1) 1 cancel(1) UNKNOWN cancel(0) 0
            cancel(0) UNKNOWN
            """,
            "set(5,0,0) run(5) 1 cancel(0) UNKNOWN",
            "set(5,5,0) run(5) 1 cancel(0) 0",
            "set(5,0,0) cancel(-1005) UNKNOWN cancel(2147483647) UNKNOWN cancel(-2147483648) UNKNOWN",
            """
            20 x set(9,0,0)
            cancel(19) 19 cancel(0) 18 cancel(9) 17 at(0) 1 at(16) 18 at(17) NONE
            """);
    }

    private static void cancelLeavesTheComparer() {
        EDGES.edge("Promise 4", "A comparer without alarms by that is free",
            """
            setLoading(4) set(5,0,0) cancel(0) 0 comparer(0,0) NONE comparer(0,1) 0 comparer(0,2) 0 comparer(0,3) NONE
            count(5) 2
            """,
            """
            setComparers(1) setLoading(4) set(5,0,0) set(9,0,0) run(2) cancel(0) 1 comparer(0,0) 9 comparer(0,2) 4
            alarm(1,3) 0
            """,
            "setComparers(1) set(5,0,0) set(9,0,0) alarm(1,3) NONE cancel(1) 1 comparer(0,0) 5 comparer(0,1) 1");
        EDGES.edge("Promise 4", "otherwise its count becomes the greatest of the times of its alarms",
            """
            setWindow(5) set(10,0,0) set(15,0,0) set(12,0,0) cancel(1) 2 comparer(0,0) 12 comparer(0,1) 2 cancel(0) 1
            comparer(0,0) 12
            """,
            """
            setWindow(5) setLoading(3) set(10,0,0) set(15,0,0) run(1) cancel(1) 1 comparer(0,0) 10 comparer(0,2) 2
            count(10) 1
            """,
            "setWindow(5) set(10,0,0) set(15,0,0) set(16,0,0) alarm(2,3) 1 cancel(0) set(17,0,0) alarm(3,3) 0",
            """
            setWindow(5) setComparers(1) set(10,0,0) set(15,0,0) set(17,0,0) alarm(2,3) NONE cancel(0) alarm(2,3) 0
            comparer(0,0) 17
            """);
    }

    private static void move() {
        EDGES.edge("Promise 5", "It is taken off its comparer, if it has one, as by cancel(), and keeps its number.",
            "set(5,7,2) move(0,8) 5 alarm(0,0) 8 alarm(0,1) 7 alarm(0,2) 2 alarm(0,3) 0 count(3) 1 set(6,0,0) 1",
            """
            setLoading(4) set(5,0,0) run(3) comparer(0,2) 1 move(0,9) 5 comparer(0,0) 9 comparer(0,2) 4 count(10) 2
            count(11) 0
            """,
            """
            setWindow(5) setLoading(3) set(10,0,0) set(15,0,0) run(1) move(1,30) 15 comparer(0,0) 10 comparer(0,2) 2
            comparer(1,2) 3
            """,
            "setComparers(1) set(5,0,0) set(9,0,0) move(1,7) 9 alarm(1,3) NONE comparer(0,0) 5 move(1,4) 7 alarm(1,3) 0",
            "set(5,0,0) set(9,0,0) move(0,20) 5 alarm(0,3) 0 alarm(1,3) 1 at(0) 1 at(1) 0",
            "set(5,5,0) run(5) 1 move(0,7) 10 alarm(0,5) 1 alarm(0,6) 0");
        EDGES.edge("Promise 5", "Gives an alarm another time.",
            "set(5,0,0) move(0,0) 5 alarm(0,0) 0 run(1) 1 ring(0,2) 1",
            "set(5,0,0) move(0,99999) 5 alarm(0,0) 99999 move(0,6) 99999",
            "set(5,0,0) move(0,6) 5 count(16) 2 undo() 1 alarm(0,0) 5");
    }

    private static void moveIsRefused() {
        EDGES.edge("Promise 5", "Returns the previous time; UNKNOWN; BAD_VALUE; NOT_POSSIBLE if the time is less than the counter; NONE if it is so already.",
            """
            move(0,5) UNKNOWN set(5,0,0) move(1,5) UNKNOWN move(-1,5) UNKNOWN move(-1005,5) UNKNOWN run(5) move(0,9) UNKNOWN
            """,
            """
            set(5,0,0) move(0,-1) BAD_VALUE move(0,100000) BAD_VALUE move(0,2147483647) BAD_VALUE
            move(0,-2147483648) BAD_VALUE
            """,
            "set(50,0,0) correct(9) move(0,8) NOT_POSSIBLE move(0,9) 50 move(0,0) NOT_POSSIBLE",
            "set(5,0,0) move(0,5) NONE count(16) 1 move(0,6) 5 move(0,6) NONE",
            "set(5,0,0) correct(5) move(0,5) NONE",
            "move(0,-1) UNKNOWN move(0,100000) UNKNOWN correct(5) move(0,4) UNKNOWN",
            "set(5,0,0) correct(3) move(0,-1) BAD_VALUE",
            "set(5,0,0) correct(6) move(0,5) NOT_POSSIBLE move(0,6) 5 move(0,6) NONE",
            """
            set(99999,0,0)
            100 x correct(999)
            correct(97) run(1) correct(1) run(1) FULL move(0,99999) NONE move(0,99998) NOT_POSSIBLE
            """);
    }

    private static void setComparers() {
        EDGES.edge("Promise 6", "`many`: 1 to 4",
            "setComparers(0) BAD_VALUE setComparers(1) 2 count(12) 1", "setComparers(5) BAD_VALUE setComparers(4) 2 count(12) 4",
            "setComparers(-1) BAD_VALUE setComparers(2147483647) BAD_VALUE setComparers(-2147483648) BAD_VALUE");
        EDGES.edge("Promise 6", "Returns how many there were; BAD_VALUE; NONE if it is so already.",
            """
            setComparers(2) NONE count(16) 0 setComparers(3) 2 count(16) 1 setComparers(3) NONE setComparers(1) 3
            setComparers(1) NONE
            """);
        EDGES.edge("Promise 6", "If there are fewer, those with the greatest numbers go, and their alarms have none any more.",
            "setComparers(3) set(7,0,0) set(8,0,0) set(9,0,0) setComparers(2) 3 alarm(2,3) NONE alarm(1,3) 1 count(11) 0",
            """
            setComparers(4) set(9,0,0) set(8,0,0) set(7,0,0) set(6,0,0) setComparers(1) 4 alarm(3,3) 0 count(4) 3 count(11) 1
            count(10) 5
            """,
            """
            setLoading(5) set(7,0,0) set(8,0,0) run(1) setComparers(1) 2 comparer(0,2) 4 comparer(1,0) UNKNOWN
            setComparers(2) 1 comparer(1,2) 5
            """,
            """
            setComparers(3) setWindow(1) set(7,0,0) set(9,0,0) set(10,0,0) setComparers(1) 3 count(4) 2 setWindow(3) 1
            count(4) 0
            """);
    }

    private static void setWindow() {
        EDGES.edge("Promise 7", "`counts`: 0 to 20",
            "setWindow(-1) BAD_VALUE setWindow(0) NONE", "setWindow(21) BAD_VALUE setWindow(20) 0 count(13) 20 setWindow(0) 20 count(13) 0",
            "setWindow(2147483647) BAD_VALUE setWindow(-2147483648) BAD_VALUE");
        EDGES.edge("Promise 7", "Returns the previous one; BAD_VALUE; NONE if it is so already.",
            "setWindow(0) NONE count(16) 0 setWindow(7) 0 setWindow(7) NONE count(16) 1 setWindow(8) 7");
        EDGES.edge("Promise 7", "Alarms that share a comparer stay together.",
            """
            setWindow(5) set(10,0,0) set(15,0,0) setWindow(0) 5 comparer(0,1) 2 comparer(0,0) 15 count(4) 0 run(15) 2
            ring(1,2) 5
            """);
    }

    private static void setLoading() {
        EDGES.edge("Promise 8", "`ticks`: 0 to 9",
            "setLoading(-1) BAD_VALUE setLoading(0) NONE", "setLoading(10) BAD_VALUE setLoading(9) 0 count(14) 9 setLoading(0) 9",
            "setLoading(2147483647) BAD_VALUE setLoading(-2147483648) BAD_VALUE");
        EDGES.edge("Promise 8", "Returns the previous one; BAD_VALUE; NONE if it is so already.",
            "setLoading(0) NONE count(16) 0 setLoading(7) 0 setLoading(7) NONE count(16) 1 setLoading(8) 7");
        EDGES.edge("Promise 8", "Sets the loading.",
            """
            set(5,0,0) setLoading(9) 0 comparer(0,2) 0 set(6,0,0) comparer(1,2) 9 setLoading(0) 9 comparer(1,2) 9 run(8) 1
            run(1) 1
            """);
    }

    private static void setDrift() {
        EDGES.edge("Promise 9", "`drift`: 0, -999 to -2, or 2 to 999",
            "setDrift(-1000) BAD_VALUE setDrift(-999) 0 count(15) -999", "setDrift(-1) BAD_VALUE setDrift(-2) 0 count(15) -2",
            "setDrift(1) BAD_VALUE setDrift(2) 0 count(15) 2", "setDrift(1000) BAD_VALUE setDrift(999) 0 count(15) 999",
            "setDrift(2) setDrift(0) 2 count(15) 0", "setDrift(2147483647) BAD_VALUE setDrift(-2147483648) BAD_VALUE");
        EDGES.edge("Promise 9", "Returns the previous one; BAD_VALUE; NONE if it is so already.",
            """
            setDrift(0) NONE count(16) 0 setDrift(7) 0 setDrift(7) NONE count(16) 1 setDrift(-7) 7 setDrift(-7) NONE
            setDrift(0) -7
            """);
    }

    private static void correct() {
        EDGES.edge("Promise 10", "`by`: -999 to 999",
            "correct(1000) BAD_VALUE correct(999) 999 correct(-1000) BAD_VALUE correct(-999) 0",
            "correct(2147483647) BAD_VALUE correct(-2147483648) BAD_VALUE correct(-1000) BAD_VALUE");
        EDGES.edge("Promise 10", "NOT_POSSIBLE if it would be less than 0 or more than 99999",
            "correct(-1) NOT_POSSIBLE correct(-999) NOT_POSSIBLE run(5) correct(-6) NOT_POSSIBLE correct(-5) 0",
            """
            100 x correct(999)
            correct(100) NOT_POSSIBLE correct(99) 99999 correct(1) NOT_POSSIBLE correct(999) NOT_POSSIBLE
            correct(1000) BAD_VALUE correct(-999) 99000
            """);
        EDGES.edge("Promise 10", "NONE if by is 0", "correct(0) NONE count(16) 0 run(5) correct(0) NONE count(0) 5 count(16) 1");
        EDGES.edge("Promise 10", "Returns the counter then; BAD_VALUE; NOT_POSSIBLE",
            "correct(-1000) BAD_VALUE correct(7) 7 correct(-7) 0 count(16) 2 undo() 1 count(0) 7");
        EDGES.edge("Promise 10", "(Alarms whose times are less ring late.)",
            "set(5,0,0) correct(9) count(6) 0 alarm(0,0) 5 comparer(0,0) 5 run(1) 1 ring(0,1) 10 ring(0,2) 5",
            "set(5,3,0) run(5) 1 correct(-5) run(7) 0 run(1) 1 ring(0,1) 8");
    }

    private static void run() {
        EDGES.edge("Promise 11", "`ticks`: 1 to 1000",
            "run(0) BAD_VALUE run(1) 0 count(1) 1", "run(1001) BAD_VALUE run(1000) 0 count(1) 1000 count(0) 1000",
            "run(-1) BAD_VALUE run(2147483647) BAD_VALUE run(-2147483648) BAD_VALUE");
        EDGES.edge("Promise 11", "FULL if the counter and 2 * ticks are together more than 99999",
            """
            100 x correct(999)
            run(50) FULL run(1000) FULL run(1001) BAD_VALUE run(0) BAD_VALUE run(49) 0 count(0) 99949
            """,
            """
            100 x correct(999)
            correct(98) run(1) FULL correct(-1) 99997 run(2) FULL run(1) 0 run(1) FULL
            """,
            """
            98 x correct(999)
            correct(97) 97999 run(1000) 0 count(0) 98999
            """,
            """
            98 x correct(999)
            correct(98) 98000 run(1000) FULL run(999) 0
            """);
        EDGES.edge("Promise 11", "Returns how often alarms ring in them",
            "run(1) 0 count(16) 1", "set(2,0,0) set(2,0,0) run(1) 0 run(1) 2 run(1) 0",
            "set(1,1,0) run(1000) 1000 run(10) 10 count(6) 1010", "set(1,1,0) setDrift(-2) run(10) 5");
    }
}
