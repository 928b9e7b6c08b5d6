/** The chapter "ERRORS": which error goes first, what records a state and what does not, and that refused calls change nothing. */
public final class ErrorEdgeTests {
    private static final Edges EDGES = new Edges("ErrorEdgeTests");
    private static final String TWENTY_AT_ZERO = "0;0;0;0;0;0;0;0;0;0;0;0;0;0;0;0;0;0;0;0";

    /** A chip of which much can be told: it rang, it waits, it is loading, its history, snapshot and text are not empty. */
    private static final String BUSY = """
        setLoading(3) setComparers(3) setWindow(2) set(4,3,1) set(5,0,2) set(9,0,0) text(12;14/3) keep()
        set(20,7,3) set(8,2,0) run(6) set(30,0,0) setDrift(5)
        """;

    private ErrorEdgeTests() {
    }

    public static void main(String[] args) {
        order();
        refusedActsChangeNothing();
        noneChangesNothing();
        refusedTellingChangesNothing();
        fullChangesNothing();
        actsRecord();
        othersDoNotRecord();
        EDGES.close();
    }

    private static void order() {
        EDGES.edge("ERRORS", "Where several errors can apply, the order of the @return line is the order of the checks.",
            "run(5) set(4,10000,0) BAD_VALUE",
            "text(" + TWENTY_AT_ZERO + ") setAll() set(0,0,4) BAD_VALUE set(0,0,0) FULL run(1) correct(-1) setAll() set(0,0,0) FULL",
            "text(" + TWENTY_AT_ZERO + ") setAll() correct(1) set(0,0,0) NOT_POSSIBLE set(0,0,4) BAD_VALUE set(1,0,0) FULL",
            "text(" + TWENTY_AT_ZERO + ") setAll() correct(1) setAll() NOT_POSSIBLE type(120) setAll() -1139",
            "move(0,-1) UNKNOWN run(5) move(0,4) UNKNOWN",
            "set(9,0,0) correct(20) move(0,-1) BAD_VALUE move(0,9) NOT_POSSIBLE",
            "correct(-1000) BAD_VALUE correct(-1) NOT_POSSIBLE",
            """
            100 x correct(999)
            run(1001) BAD_VALUE run(1000) FULL
            """,
            "alarm(0,7) UNKNOWN comparer(2,4) UNKNOWN at(-1) BAD_VALUE ring(0,4) BAD_VALUE ring(-1,0) BAD_VALUE");
        EDGES.edge("ERRORS", "NONE is no error; it is returned only if no error applies.",
            "set(9,0,0) correct(10) move(0,9) NOT_POSSIBLE correct(-1) move(0,9) NONE",
            "at(-1) BAD_VALUE at(0) NONE", "ring(0,4) BAD_VALUE ring(0,3) NONE", "comparer(0,4) BAD_VALUE comparer(0,3) NONE",
            "set(9,0,0) alarm(0,7) BAD_VALUE alarm(0,6) NONE");
    }

    private static void refusedActsChangeNothing() {
        EDGES.edge("ERRORS", "A call that returns an error or NONE changes nothing.",
            BUSY + "set(-1,0,0) BAD_VALUE set(40,10000,0) BAD_VALUE set(40,0,4) BAD_VALUE set(5,0,0) NOT_POSSIBLE",
            BUSY + "setAll() 7 text(12;5) setAll() NOT_POSSIBLE text(12;14/3;) setAll() -1108 clearText() setAll() -1100",
            BUSY + "cancel(-1) UNKNOWN cancel(1) UNKNOWN cancel(99) UNKNOWN",
            BUSY + "move(1,40) UNKNOWN move(3,-1) BAD_VALUE move(3,100000) BAD_VALUE move(3,5) NOT_POSSIBLE",
            BUSY + "setComparers(0) BAD_VALUE setComparers(5) BAD_VALUE setWindow(-1) BAD_VALUE setWindow(21) BAD_VALUE",
            BUSY + "setLoading(-1) BAD_VALUE setLoading(10) BAD_VALUE setDrift(1) BAD_VALUE setDrift(-1) BAD_VALUE setDrift(1000) BAD_VALUE",
            BUSY + "correct(1000) BAD_VALUE correct(-1000) BAD_VALUE correct(-7) NOT_POSSIBLE run(0) BAD_VALUE run(1001) BAD_VALUE");
    }

    private static void noneChangesNothing() {
        EDGES.edge("ERRORS", "A call that returns an error or NONE changes nothing.",
            BUSY + "move(3,20) NONE setComparers(3) NONE setWindow(2) NONE setLoading(3) NONE setDrift(5) NONE correct(0) NONE",
            "set(5,0,0) run(7) text(8) restore() NONE undo() 1 undo() 0 undo() NONE restore() NONE",
            BUSY + "at(4) 5 at(5) NONE ring(8,0) NONE ringsIn(3) 12 run(2) alarm(5,6) NONE");
    }

    private static void refusedTellingChangesNothing() {
        EDGES.edge("ERRORS", "A call that returns an error or NONE changes nothing.",
            BUSY + "alarm(1,0) UNKNOWN alarm(0,7) BAD_VALUE alarm(0,-1) BAD_VALUE comparer(3,0) UNKNOWN comparer(0,4) BAD_VALUE",
            BUSY + "at(-1) BAD_VALUE ringsIn(1) UNKNOWN ifComparers(0,1,0) BAD_VALUE ifComparers(1,0,0) BAD_VALUE ifComparers(1,1,4) BAD_VALUE",
            BUSY + "fewest(0) BAD_VALUE fewest(501) BAD_VALUE ring(-1,0) BAD_VALUE ring(0,4) BAD_VALUE count(-1) BAD_VALUE count(18) BAD_VALUE");
        EDGES.edge("Promise 20", "if only ticks pass", BUSY + "ringsIn(0) ringsIn(2) ringsIn(3) ringsIn(4) ringsIn(5) count(1) 6 count(16) 4");
        EDGES.edge("Promise 21", "if it was set now", BUSY + "ifComparers(1,500,1) ifComparers(4,9,0) ifComparers(2,3,3) fewest(100) count(12) 3");
    }

    private static void fullChangesNothing() {
        EDGES.edge("ERRORS", "`FULL = -1003`: There is no more room.",
            "text(" + TWENTY_AT_ZERO + ") setAll() 20 keep() run(1) setAll() NOT_POSSIBLE undo() set(0,0,0) FULL setAll() FULL",
            "set(1,0,0) text(" + TWENTY_AT_ZERO + ") setAll() FULL count(2) 1 count(3) 1",
            "set(9,0,0) text(" + TWENTY_AT_ZERO + ";0;0;0;0;0;0;0;0;0;0) type(59) 60 type(48) FULL type(120) FULL setAll() -1160",
            """
            100 x correct(999)
            set(99950,0,0) keep() run(50) FULL run(1000) FULL count(1) 0 count(0) 99900
            """);
    }

    private static void actsRecord() {
        EDGES.edge("HISTORY", "Each call of a method that is described as an act, and returns no error and not NONE, records the state that was before it.",
            "set(5,0,0) count(16) 1 undo() 0 count(3) 0", "text(5;6;7) setAll() 3 count(16) 1 undo() 0 count(3) 0",
            "set(5,0,0) undo() 0 set(5,0,0) cancel(0) count(16) 2 undo() 1 alarm(0,3) 0 comparer(0,0) 5",
            "set(5,0,0) move(0,6) count(16) 2 undo() 1 alarm(0,0) 5 comparer(0,0) 5",
            "setComparers(4) count(16) 1 undo() 0 count(12) 2", "setWindow(3) count(16) 1 undo() 0 count(13) 0",
            "setLoading(3) count(16) 1 undo() 0 count(14) 0", "setDrift(3) count(16) 1 undo() 0 count(15) 0",
            "correct(3) count(16) 1 undo() 0 count(0) 0", "run(3) count(16) 1 undo() 0 count(0) 0 count(1) 0",
            "keep() run(3) restore() 0 count(16) 2 undo() 1 count(0) 3");
    }

    private static void othersDoNotRecord() {
        EDGES.edge("HISTORY", "Each call of a method that is described as an act",
            "run(1) type(49) 1 count(16) 1 clearText() 1 count(16) 1 keep() 1 count(16) 1 undo() 0 count(16) 0",
            """
            set(5,0,0) alarm(0,0) comparer(0,0) at(0) ringsIn(0) ifComparers(1,9,0) fewest(9) ring(0,0) count(0) count(16) 1
            """,
            "run(1) run(1) undo() 1 undo() 0 undo() NONE count(16) 0");
    }
}
