/** The bounds that promises 14 to 24 name: the history, and what is told. */
public final class ToldEdgeTests {
    private static final Edges EDGES = new Edges("ToldEdgeTests");

    private ToldEdgeTests() {
    }

    public static void main(String[] args) {
        undo();
        keep();
        restore();
        alarm();
        alarmsTold();
        comparer();
        at();
        ringsIn();
        ifComparers();
        ifComparersTold();
        fewest();
        ring();
        count();
        countsTold();
        EDGES.close();
    }

    private static void undo() {
        EDGES.edge("Promise 14", "Returns the number of states that are left; NONE if the history is empty.",
            "undo() NONE run(1) undo() 0 undo() NONE count(16) 0", "run(1) run(1) undo() 1 count(16) 1 undo() 0 undo() NONE",
            """
            7 x run(1)
            undo() 3 undo() 2 undo() 1 undo() 0 undo() NONE count(0) 3
            """,
            "text(5) keep() clearText() undo() NONE set(-1,0,0) BAD_VALUE undo() NONE");
        EDGES.edge("Promise 14", "Removes and restores the latest state of the history.",
            "run(3) setWindow(4) undo() 1 count(13) 0 count(0) 3 undo() 0 count(0) 0",
            """
            set(3,4,1) run(9) 2 undo() 1 alarm(0,0) 3 alarm(0,5) 0 alarm(0,6) NONE ring(0,0) NONE count(6) 0 run(9) 2
            count(6) 2
            """,
            "setComparers(1) set(9,0,0) set(5,0,0) undo() 2 alarm(0,3) 0 comparer(0,0) 9 count(11) 0 set(5,0,0) 1",
            "setDrift(3) run(2) undo() 1 run(3) count(0) 4");
    }

    private static void keep() {
        EDGES.edge("Promise 15", "Takes a snapshot of the state, in place of the one that was.",
            "run(2) keep() 2 run(3) keep() 5 run(1) restore() 5 run(1) restore() 5 count(0) 5");
        EDGES.edge("Promise 15", "Returns the counter.", "keep() 0 count(16) 0", "run(9) keep() 9 correct(-4) keep() 5 count(16) 2",
            """
            100 x correct(999)
            correct(99) keep() 99999
            """);
    }

    private static void restore() {
        EDGES.edge("Promise 16", "Returns the counter then; NONE if there is no snapshot.",
            "restore() NONE count(16) 0 run(4) restore() NONE count(16) 1 keep() 4 run(3) restore() 4 count(16) 3",
            "keep() 0 restore() 0 count(16) 1 undo() 0");
        EDGES.edge("Promise 16", "Restores the state of the snapshot, which stays. This is an act.",
            """
            set(5,2,1) keep() 0 run(9) 3 restore() 0 alarm(0,0) 5 count(6) 0 run(9) 3 restore() 0 alarm(0,0) 5 ring(0,0) NONE
            """,
            "keep() 0 set(5,0,0) 0 restore() 0 count(2) 0 undo() 1 count(2) 1 undo() 0 restore() 0",
            """
            keep() 0
            4 x run(1)
            restore() 0 count(16) 4 undo() 3 count(0) 4 undo() 2 undo() 1 undo() 0 count(0) 1 undo() NONE
            """);
    }

    private static void alarm() {
        EDGES.edge("Promise 17", "`alarm`: an alarm that is set",
            "alarm(0,0) UNKNOWN alarm(-1,0) UNKNOWN set(5,0,0) alarm(0,0) 5 alarm(1,0) UNKNOWN alarm(-1,0) UNKNOWN",
            "set(5,0,0) cancel(0) alarm(0,0) UNKNOWN set(6,0,0) alarm(0,0) UNKNOWN alarm(1,0) 6",
            "set(5,0,0) run(5) alarm(0,5) UNKNOWN", "set(5,0,0) alarm(2147483647,0) UNKNOWN alarm(-2147483648,0) UNKNOWN");
        EDGES.edge("Promise 17", "Returns the number; UNKNOWN; BAD_VALUE.",
            """
            set(5,0,0) alarm(0,-1) BAD_VALUE alarm(0,7) BAD_VALUE alarm(0,2147483647) BAD_VALUE
            alarm(0,-2147483648) BAD_VALUE
            """,
            "alarm(0,7) UNKNOWN alarm(0,-1) UNKNOWN set(5,0,0) alarm(1,7) UNKNOWN");
    }

    private static void alarmsTold() {
        EDGES.edge("Promise 17", "0 for its time, 1 for its period, 2 for its rank",
            "set(5,8,3) alarm(0,0) 5 alarm(0,1) 8 alarm(0,2) 3 run(5) alarm(0,0) 13 alarm(0,1) 8 alarm(0,2) 3");
        EDGES.edge("Promise 17", "3 for its comparer (NONE without one)",
            "set(5,0,0) set(6,0,0) set(7,0,0) alarm(0,3) 0 alarm(1,3) 1 alarm(2,3) NONE cancel(0) alarm(2,3) 0");
        EDGES.edge("Promise 17", "4 for its place in the order, from 0",
            "set(5,0,0) alarm(0,4) 0 set(4,0,0) alarm(0,4) 1 alarm(1,4) 0 set(5,0,1) alarm(0,4) 2 alarm(2,4) 1",
            """
            20 x set(9,0,0)
            alarm(19,4) 19 alarm(0,4) 0
            """);
        EDGES.edge("Promise 17", "5 for how often it rang",
            "set(5,1,0) alarm(0,5) 0 run(5) alarm(0,5) 1 run(3) alarm(0,5) 4 correct(9) run(1) alarm(0,5) 5");
        EDGES.edge("Promise 17", "6 for its greatest slip so far (NONE if it did not ring yet)",
            "set(5,3,0) alarm(0,6) NONE run(5) alarm(0,6) 0 correct(6) run(1) alarm(0,6) 4 run(9) alarm(0,6) 4 alarm(0,5) 5",
            "set(5,0,0) run(5) set(9,0,0) alarm(1,6) NONE alarm(1,5) 0");
    }

    private static void comparer() {
        EDGES.edge("Promise 18", "`comparer`: 0 to how many there are, less 1",
            "comparer(-1,0) UNKNOWN comparer(0,0) NONE comparer(1,0) NONE comparer(2,0) UNKNOWN",
            "setComparers(4) comparer(3,1) 0 comparer(4,1) UNKNOWN setComparers(1) comparer(0,1) 0 comparer(1,1) UNKNOWN",
            "comparer(2147483647,0) UNKNOWN comparer(-2147483648,0) UNKNOWN");
        EDGES.edge("Promise 18", "0 for its count (NONE if it is free)",
            "comparer(0,0) NONE set(0,0,0) comparer(0,0) 0 set(99999,0,0) comparer(1,0) 99999 run(1) comparer(0,0) NONE");
        EDGES.edge("Promise 18", "1 for how many alarms share it", "comparer(0,1) 0 set(5,0,0) comparer(0,1) 1 set(5,0,0) comparer(0,1) 2",
            """
            20 x set(5,0,0)
            comparer(0,1) 20 comparer(1,1) 0 cancel(7) comparer(0,1) 19
            """);
        EDGES.edge("Promise 18", "2 for the ticks for which it is loading still (0 if it is free)",
            """
            setLoading(2) comparer(0,2) 0 set(5,0,0) comparer(0,2) 2 run(1) comparer(0,2) 1 run(1) comparer(0,2) 0 run(3)
            comparer(0,2) 0
            """,
            "setLoading(2) set(5,0,0) comparer(0,2) 2 cancel(0) comparer(0,2) 0");
        EDGES.edge("Promise 18", "3 for the first of its alarms, in their order (NONE if it is free)",
            """
            setWindow(2) comparer(0,3) NONE set(6,0,0) comparer(0,3) 0 set(6,0,1) comparer(0,3) 1 set(5,0,0) comparer(0,3) 2
            cancel(2) comparer(0,3) 1
            """);
        EDGES.edge("Promise 18", "Returns the number; UNKNOWN; BAD_VALUE.",
            """
            comparer(0,-1) BAD_VALUE comparer(0,4) BAD_VALUE comparer(1,2147483647) BAD_VALUE
            comparer(1,-2147483648) BAD_VALUE
            """,
            "comparer(2,4) UNKNOWN comparer(-1,-1) UNKNOWN");
    }

    private static void at() {
        EDGES.edge("Promise 19", "Returns its number; BAD_VALUE if place is negative; NONE if there are not so many.",
            "at(-1) BAD_VALUE at(0) NONE at(1) NONE", "set(9,0,0) set(5,0,0) at(0) 1 at(1) 0 at(2) NONE at(-1) BAD_VALUE",
            "set(5,0,0) at(2147483647) NONE at(-2147483648) BAD_VALUE",
            """
            20 x set(9,0,0)
            at(19) 19 at(20) NONE cancel(3) at(18) 19 at(19) NONE
            """);
    }

    private static void ringsIn() {
        EDGES.edge("Promise 20", "Returns the ticks, up to 1000; UNKNOWN; NONE if it does not by then.",
            """
            ringsIn(0) UNKNOWN ringsIn(-1) UNKNOWN set(5,0,0) ringsIn(1) UNKNOWN ringsIn(-1005) UNKNOWN run(5)
            ringsIn(0) UNKNOWN
            """,
            "set(0,0,0) ringsIn(0) 1", "set(1,0,0) ringsIn(0) 1", "set(2,0,0) ringsIn(0) 2",
            """
            set(1000,0,0) ringsIn(0) 1000 set(1001,0,0) ringsIn(1) NONE set(99999,0,0) ringsIn(2) NONE run(1) ringsIn(1) 1000
            """,
            "set(999,0,0) ringsIn(0) 999", "setDrift(1000) BAD_VALUE setDrift(-2) 0 set(500,0,0) ringsIn(0) 999 set(501,0,0) ringsIn(1) NONE",
            """
            setLoading(9) setComparers(1) set(990,0,0) set(991,0,0) ringsIn(1) 999 move(0,991) ringsIn(1) 991
            setWindow(0) NONE
            """);
        EDGES.edge("Promise 20", "Tells in how many ticks an alarm rings next, if only ticks pass.",
            "set(5,3,0) run(5) 1 ringsIn(0) 3 count(1) 5 count(6) 1 run(2) ringsIn(0) 1 run(1) 1 ringsIn(0) 3",
            "setComparers(1) setLoading(2) set(5,0,0) set(6,0,0) ringsIn(1) 7 ringsIn(0) 5",
            "setComparers(1) setLoading(2) set(9,0,0) set(1,1,0) ringsIn(0) 10 ringsIn(1) 2",
            "set(20,0,0) correct(30) ringsIn(0) 1 correct(-25) ringsIn(0) 15");
    }

    private static void ifComparers() {
        EDGES.edge("Promise 21", "`many`: 1 to 4", "ifComparers(0,1,0) BAD_VALUE ifComparers(1,1,0) 0 ifComparers(4,1,0) 0 ifComparers(5,1,0) BAD_VALUE",
            "ifComparers(2147483647,1,0) BAD_VALUE ifComparers(-2147483648,1,0) BAD_VALUE ifComparers(-1,1,0) BAD_VALUE");
        EDGES.edge("Promise 21", "`ticks`: 1 to 500",
            """
            set(1,1,0) ifComparers(2,0,0) BAD_VALUE ifComparers(2,1,0) 1 ifComparers(2,500,0) 500
            ifComparers(2,501,0) BAD_VALUE
            """,
            "ifComparers(2,2147483647,0) BAD_VALUE ifComparers(2,-2147483648,0) BAD_VALUE");
        EDGES.edge("Promise 21", "Returns the number; BAD_VALUE.",
            "ifComparers(1,1,-1) BAD_VALUE ifComparers(1,1,0) 0 ifComparers(1,1,3) 0 ifComparers(1,1,4) BAD_VALUE",
            "ifComparers(1,1,2147483647) BAD_VALUE ifComparers(1,1,-2147483648) BAD_VALUE");
    }

    private static void ifComparersTold() {
        EDGES.edge("Promise 21", "0 for how often alarms ring in these ticks, 1 for the sum of their slips, 2 for the greatest of these (0 if none rings), 3 for missed ones",
            "ifComparers(1,500,0) 0 ifComparers(1,500,1) 0 ifComparers(1,500,2) 0 ifComparers(1,500,3) 0",
            """
            set(5,0,0) run(3) correct(9) run(1) 1 ifComparers(1,9,0) 0 ifComparers(1,9,1) 0 ifComparers(1,9,2) 0 count(8) 8
            """,
            "set(5,4,0) correct(13) run(1) 1 count(9) 2 ifComparers(2,9,0) 2 ifComparers(2,9,1) 0 ifComparers(2,9,3) 0",
            """
            set(5,4,0) correct(13) ifComparers(1,1,0) 1 ifComparers(1,1,1) 9 ifComparers(1,1,2) 9 ifComparers(1,1,3) 2
            count(9) 0
            """,
            """
            set(5,0,0) set(7,0,0) correct(9) ifComparers(2,9,0) 2 ifComparers(2,9,1) 8 ifComparers(2,9,2) 5
            ifComparers(1,9,1) 9
            """);
        EDGES.edge("Promise 21", "Tells what another number of comparers would bring, if it was set now.",
            """
            setLoading(4) set(5,0,0) set(6,0,0) ifComparers(1,6,0) 1 ifComparers(2,6,0) 2 ifComparers(3,6,0) 2 count(12) 2
            count(1) 0
            """,
            """
            setComparers(3) set(7,0,0) set(6,0,0) set(5,0,0) setLoading(9) ifComparers(1,8,0) 0 ifComparers(1,9,0) 1
            ifComparers(3,8,0) 3
            """,
            """
            setComparers(1) set(1,0,0) set(2,0,0) setLoading(5) ifComparers(2,4,0) 1 ifComparers(2,5,0) 2
            ifComparers(1,5,0) 1
            """);
    }

    private static void fewest() {
        EDGES.edge("Promise 22", "Finds the fewest comparers with which the slips in some ticks are a sum that no number of comparers makes less.",
            "fewest(500) 1", "setLoading(2) set(5,0,0) set(6,0,0) fewest(5) 1 fewest(6) 1 fewest(7) 2 count(12) 2 count(1) 0",
            "setLoading(9) set(5,0,0) set(6,0,0) set(7,0,0) set(8,0,0) set(9,0,0) fewest(8) 1 fewest(500) 4",
            """
            setLoading(9) set(50,0,0) set(51,0,0) set(52,0,0) fewest(500) 3 setWindow(1) fewest(500) 2 setLoading(0)
            fewest(500) 1
            """);
        EDGES.edge("Promise 22", "`ticks`: 1 to 500", "fewest(0) BAD_VALUE fewest(1) 1 fewest(500) 1 fewest(501) BAD_VALUE",
            "fewest(-1) BAD_VALUE fewest(2147483647) BAD_VALUE fewest(-2147483648) BAD_VALUE",
            "setLoading(9) set(491,0,0) set(492,0,0) fewest(499) 1 fewest(500) 2");
    }

    private static void ring() {
        EDGES.edge("Promise 23", "Looks back at the latest 8 rings.",
            """
            set(1,1,0) run(7) ring(6,1) 1 ring(7,1) NONE run(1) ring(7,1) 1 ring(8,1) NONE run(1) ring(7,1) 2 ring(8,1) NONE
            """,
            "set(1,1,0) run(16) ring(0,1) 16 ring(7,1) 9 run(1) ring(0,1) 17 ring(7,1) 10 ring(8,1) NONE");
        EDGES.edge("Promise 23", "Returns the number; BAD_VALUE (back is negative, or what); NONE if there is none.",
            """
            ring(-1,0) BAD_VALUE ring(0,-1) BAD_VALUE ring(0,4) BAD_VALUE ring(0,0) NONE ring(0,3) NONE ring(9,4) BAD_VALUE
            ring(-1,4) BAD_VALUE
            """,
            """
            set(1,0,0) run(1) ring(0,0) 0 ring(1,0) NONE ring(1,4) BAD_VALUE ring(-1,0) BAD_VALUE ring(0,4) BAD_VALUE
            ring(0,-1) BAD_VALUE
            """,
            """
            set(1,0,0) run(1) ring(2147483647,0) NONE ring(-2147483648,0) BAD_VALUE ring(0,2147483647) BAD_VALUE
            ring(0,-2147483648) BAD_VALUE
            """);
        EDGES.edge("Promise 23", "0 for the alarm, 1 for the counter as it rang, 2 for its slip, 3 for its comparer",
            """
            set(3,0,0) set(5,0,0) run(3) correct(4) run(1) ring(0,0) 1 ring(0,1) 8 ring(0,2) 3 ring(0,3) 1 ring(1,0) 0
            ring(1,1) 3 ring(1,2) 0 ring(1,3) 0
            """);
    }

    private static void count() {
        EDGES.edge("Promise 24", "Returns the number; BAD_VALUE.",
            """
            count(-1) BAD_VALUE count(0) 0 count(17) 0 count(18) BAD_VALUE count(2147483647) BAD_VALUE
            count(-2147483648) BAD_VALUE
            """);
    }

    private static void countsTold() {
        EDGES.edge("Promise 24", "2 for alarms that are set, 3 for alarms ever, 4 for alarms without a comparer, 5 for free comparers",
            """
            set(5,0,0) count(2) 1 count(3) 1 count(4) 0 count(5) 1 set(6,0,0) count(5) 0 set(7,0,0) count(4) 1 count(2) 3
            cancel(0) count(4) 0 count(2) 2 count(3) 3
            """,
            "setComparers(4) count(5) 4 set(5,0,0) set(5,0,0) count(5) 3 run(5) count(5) 4 count(2) 0 count(3) 2");
        EDGES.edge("Promise 24", "6 for rings so far, 7 for the sum of all slips so far, 8 for the greatest of them (0 without a ring), 9 for missed ones so far",
            """
            count(6) 0 count(7) 0 count(8) 0 count(9) 0 set(5,3,0) run(5) count(6) 1 count(7) 0 count(8) 0 correct(9) run(1)
            count(6) 2 count(7) 7 count(8) 7 count(9) 2
            """,
            """
            set(5,0,0) correct(9) run(1) count(7) 5 count(8) 5 set(20,0,0) correct(12) run(1) count(7) 8 count(8) 5
            count(6) 2
            """);
        EDGES.edge("Promise 24", "10 for comparers that were loaded so far, 11 for comparers that were taken over so far",
            """
            setComparers(1) set(5,0,0) count(10) 1 set(5,0,0) count(10) 1 set(4,0,0) count(10) 2 count(11) 1 run(4)
            count(10) 3 count(11) 1
            """,
            """
            set(5,0,0) setComparers(1) count(10) 1 setComparers(2) count(10) 1 move(0,6) count(10) 2 cancel(0) count(10) 2
            count(11) 0
            """);
        EDGES.edge("Promise 24", "16 for the states in the history, 17 for the length of the text",
            "count(16) 0 run(1) count(16) 1 undo() count(16) 0 count(17) 0 type(49) count(17) 1 clearText() count(17) 0",
            """
            setComparers(4) setWindow(20) setLoading(9) setDrift(-999) count(12) 4 count(13) 20 count(14) 9 count(15) -999
            """);
    }
}
