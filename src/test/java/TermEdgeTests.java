/** The bounds that the chapter "Terms" names: COUNTER, ALARMS, COMPARERS, A TICK, SHARING OUT and HISTORY. */
public final class TermEdgeTests {
    private static final Edges EDGES = new Edges("TermEdgeTests");

    private TermEdgeTests() {
    }

    public static void main(String[] args) {
        counter();
        drift();
        howManyAlarms();
        alarms();
        order();
        comparers();
        ticks();
        ringing();
        slipsAndMissedOnes();
        whenShared();
        joining();
        loadingFreeOnes();
        takingOver();
        howManyStates();
        states();
        EDGES.close();
    }

    private static void counter() {
        EDGES.edge("COUNTER", "The chip has a counter (0 at first; at most 99999).",
            "count(0) 0 correct(-1) NOT_POSSIBLE count(0) 0",
            """
            100 x correct(999)
            count(0) 99900 correct(100) NOT_POSSIBLE correct(99) 99999
            correct(1) NOT_POSSIBLE run(1) FULL count(0) 99999
            """,
            """
            100 x correct(999)
            setDrift(2) 0 correct(97) 99997 run(1) 0 count(0) 99998
            run(1) FULL correct(-1) 99997 run(1) 0 count(0) 99999 run(1) FULL
            """);
        EDGES.edge("COUNTER", "In each tick it grows by 1",
            "run(1) 0 count(0) 1 run(2) 0 count(0) 3 run(1000) 0 count(0) 1003");
    }

    private static void drift() {
        EDGES.edge("COUNTER", "in each tick whose number (counted from 1) is divisible by d it grows by 2, if d is above 0",
            "setDrift(2) run(1) 0 count(0) 1 run(1) 0 count(0) 3 run(1) 0 count(0) 4 run(1) 0 count(0) 6",
            "setDrift(999) run(998) 0 count(0) 998 run(1) 0 count(0) 1000 run(998) count(0) 1998 run(1) count(0) 2000",
            "run(1) setDrift(3) run(1) 0 count(0) 2 run(1) 0 count(0) 4");
        EDGES.edge("COUNTER", "or by 0, if d is below 0",
            "setDrift(-2) run(1) 0 count(0) 1 run(1) 0 count(0) 1 run(1) 0 count(0) 2 run(1) 0 count(0) 2 count(1) 4",
            "setDrift(-999) run(998) 0 count(0) 998 run(1) 0 count(0) 998 run(1) 0 count(0) 999",
            "run(1) setDrift(-3) run(1) 0 count(0) 2 run(1) 0 count(0) 2");
        EDGES.edge("COUNTER", "if there is a drift d (0 at first",
            "count(15) 0 run(4) count(0) 4",
            "setDrift(2) run(2) count(0) 3 setDrift(0) 2 run(2) count(0) 5",
            "setDrift(-2) run(2) count(0) 1 setDrift(0) -2 run(2) count(0) 3");
    }

    private static void howManyAlarms() {
        EDGES.edge("ALARMS", "At most 20 alarms are set",
            """
            19 x set(9,0,0)
            count(2) 19 set(9,0,0) 19 count(2) 20 set(9,0,0) FULL count(2) 20
            """,
            """
            20 x set(9,0,0)
            cancel(4) 19 set(9,0,0) 20 set(9,0,0) FULL
            """,
            """
            19 x set(9,0,0)
            set(2,0,0) 19 run(1) 0 set(9,0,0) FULL run(1) 1 set(9,0,0) 20 set(9,0,0) FULL
            """,
            """
            20 x set(9,5,0)
            run(9) 20 count(2) 20 set(14,0,0) FULL
            """);
        EDGES.edge("ALARMS", "no number comes again; at most 500 ever",
            "set(9,0,0) 0 cancel(0) 0 set(9,0,0) 1 alarm(0,0) UNKNOWN",
            "set(1,0,0) 0 set(1,0,0) 1 run(1) 2 set(1,0,0) 2 count(3) 3 count(2) 1",
            """
            text(0;0;0;0;0;0;0;0;0;0;0;0;0;0;0;0;0;0;0;0)
            24 x setAll() 20 run(1) 20 correct(-1) 0
            count(3) 480 text(0;0;0;0;0;0;0;0;0;0;0;0;0;0;0;0;0;0;0) setAll() 19
            set(0,0,0) 499 count(3) 500 set(0,0,0) FULL run(1) 20 set(1,0,0) FULL count(2) 0 count(3) 500
            """,
            """
            text(0;0;0;0;0;0;0;0;0;0;0;0;0;0;0;0;0;0;0;0)
            25 x setAll() 20 run(1) 20 correct(-1) 0
            count(3) 500 set(0,0,0) FULL text(0) setAll() FULL
            """);
    }

    private static void alarms() {
        EDGES.edge("ALARMS", "numbered from 0 in the order in which they were set",
            "set(9,0,0) 0 set(5,0,3) 1 set(7,0,0) 2",
            "text(9;5!3;7) setAll() 3 alarm(0,0) 9 alarm(1,0) 5 alarm(2,0) 7 alarm(3,0) UNKNOWN");
        EDGES.edge("ALARMS", "An alarm has a time (a count), a period (0: it rings once; 1 to 9999), and a rank (0 to 3).",
            "set(3,0,0) run(3) 1 alarm(0,5) UNKNOWN count(2) 0 run(500) 0",
            "set(3,1,0) run(2) 0 run(5) 5 alarm(0,5) 5 alarm(0,0) 8",
            """
            set(3,9999,0) run(3) 1 alarm(0,0) 10002
            10 x run(999)
            run(8) 0 run(1) 1 count(0) 10002
            """,
            "set(3,0,0) set(3,0,3) alarm(0,2) 0 alarm(1,2) 3");
    }

    private static void order() {
        EDGES.edge("ALARMS", "Alarms are in their order by their times, of several by the greater rank first, of these by the lower number.",
            "set(6,0,3) set(5,0,0) set(7,0,3) at(0) 1 at(1) 0 at(2) 2",
            "set(5,0,0) set(5,0,1) set(5,0,2) set(5,0,3) at(0) 3 at(1) 2 at(2) 1 at(3) 0",
            "set(5,0,3) set(5,0,2) set(5,0,1) set(5,0,0) at(0) 0 at(1) 1 at(2) 2 at(3) 3",
            "set(5,0,2) set(5,0,2) set(5,0,2) at(0) 0 at(1) 1 at(2) 2 alarm(2,4) 2",
            "set(4,0,2) set(5,0,2) move(0,5) 4 at(0) 0 at(1) 1 move(0,6) 5 at(0) 1 at(1) 0",
            "set(5,0,2) set(9,0,2) move(1,5) 9 at(0) 0 at(1) 1 move(1,4) 5 at(0) 1 at(1) 0",
            "set(2,3,0) set(5,0,0) set(5,0,1) run(2) 1 at(0) 2 at(1) 0 at(2) 1");
    }

    private static void comparers() {
        EDGES.edge("COMPARERS", "There are 1 to 4 comparers (2 at first), numbered from 0.",
            "count(12) 2 comparer(-1,1) UNKNOWN comparer(0,1) 0 comparer(1,1) 0 comparer(2,1) UNKNOWN",
            "setComparers(0) BAD_VALUE setComparers(1) 2 comparer(0,1) 0 comparer(1,1) UNKNOWN",
            "setComparers(5) BAD_VALUE setComparers(4) 2 comparer(3,1) 0 comparer(4,1) UNKNOWN",
            """
            setComparers(4) set(4,0,0) set(3,0,0) set(2,0,0) set(1,0,0) alarm(0,3) 0 alarm(3,3) 3 set(5,0,0) alarm(4,3) NONE
            """);
        EDGES.edge("COMPARERS", "a loaded one may have to be loading still for some ticks: it does not ring in these",
            "setLoading(3) set(1,0,0) run(1) 0 comparer(0,2) 2 run(1) 0 comparer(0,2) 1 run(1) 1 ring(0,1) 3");
        EDGES.edge("COMPARERS", "The window (0 to 20; 0 at first) tells how far apart the times of alarms may be that share a comparer.",
            "count(13) 0 set(5,0,0) set(5,0,0) alarm(1,3) 0 set(6,0,0) alarm(2,3) 1",
            "setWindow(20) set(10,0,0) set(30,0,0) alarm(1,3) 0 set(31,0,0) alarm(2,3) 1",
            "setWindow(20) set(30,0,0) set(10,0,0) alarm(1,3) 0 set(9,0,0) alarm(2,3) 1");
        EDGES.edge("COMPARERS", "The loading (0 to 9; 0 at first) tells for how many ticks a comparer has to be loading as it is loaded.",
            "count(14) 0 set(1,0,0) comparer(0,2) 0 run(1) 1 ring(0,2) 0",
            "setLoading(1) set(1,0,0) comparer(0,2) 1 run(1) 1 ring(0,2) 0",
            "setLoading(9) set(1,0,0) comparer(0,2) 9 run(8) 0 comparer(0,2) 1 run(1) 1 ring(0,2) 8");
    }

    private static void ticks() {
        EDGES.edge("A TICK", "The number of ticks grows by 1; the counter grows.",
            "count(1) 0 run(1) count(1) 1 correct(7) count(1) 1 run(3) count(1) 4 count(0) 11",
            "set(1,0,0) run(1) 1 ring(0,1) 1 ring(0,2) 0");
        EDGES.edge("A TICK", "Each comparer that is loading still has one tick of loading less (with the last one it can ring in this tick).",
            "setLoading(2) set(0,0,0) run(1) 0 run(1) 1",
            "setLoading(3) set(9,0,0) run(3) 0 comparer(0,2) 0 run(1) comparer(0,2) 0 run(5) 1 ring(0,2) 0",
            "setLoading(3) set(3,0,0) run(2) 0 set(8,0,0) comparer(0,2) 1 comparer(1,2) 3 run(1) 1 comparer(1,2) 2");
        EDGES.edge("A TICK", "Comparers are shared out in each tick",
            "setComparers(1) setLoading(2) set(4,0,0) set(9,0,0) run(4) 1 alarm(1,3) 0 comparer(0,2) 2",
            "set(4,6,0) run(4) 1 alarm(0,3) 0 comparer(0,0) 10 comparer(0,1) 1");
    }

    private static void ringing() {
        EDGES.edge("A TICK", "Each loaded comparer that is not loading, by their numbers, rings if its count is at most the counter",
            "set(5,0,0) run(4) 0 run(1) 1 ring(0,1) 5",
            "set(5,0,0) correct(4) run(1) 1 ring(0,2) 0",
            "set(5,0,0) correct(5) run(1) 1 ring(0,2) 1",
            "set(5,0,0) correct(3) run(1) 0 run(1) 1 ring(0,2) 0",
            "set(20,0,0) set(10,0,0) correct(30) run(1) 2 ring(1,0) 0 ring(1,3) 0 ring(0,0) 1 ring(0,3) 1",
            "set(5,0,0) setLoading(2) set(6,0,0) correct(6) run(1) 1 ring(0,0) 0 run(1) 1 ring(0,0) 1",
            "setComparers(1) set(5,0,0) set(6,0,0) correct(9) run(1) 1 ring(0,0) 0 run(1) 1 ring(0,0) 1");
        EDGES.edge("A TICK", "all its alarms ring, in their order; it is free then",
            """
            setWindow(4) set(9,0,0) set(8,0,0) set(9,0,2) set(12,0,0) run(11) 0 run(1) 4 ring(3,0) 1 ring(2,0) 2 ring(1,0) 0
            ring(0,0) 3
            """,
            """
            setLoading(1) set(1,0,0) run(1) 1
            comparer(0,0) NONE comparer(0,1) 0 comparer(0,2) 0 comparer(0,3) NONE count(5) 2
            """,
            "setWindow(2) set(2,1,0) set(4,1,0) run(4) 2 ring(1,0) 0 ring(0,0) 1 alarm(0,0) 5 alarm(1,0) 5 run(1) 2");
    }

    private static void slipsAndMissedOnes() {
        EDGES.edge("A TICK", "The slip of an alarm that rings is the counter less its time.",
            "set(5,0,0) run(5) 1 ring(0,2) 0 count(7) 0 count(8) 0",
            "set(5,0,0) correct(5) run(1) 1 ring(0,2) 1 count(7) 1 count(8) 1",
            "setWindow(3) set(5,0,0) set(8,0,0) run(8) 2 ring(1,2) 3 ring(0,2) 0 count(7) 3");
        EDGES.edge("A TICK", "An alarm with a period gets the time its period later",
            "set(5,7,0) run(5) 1 alarm(0,0) 12 count(9) 0",
            """
            set(99999,9999,0)
            100 x correct(999)
            correct(97) run(1) 0 correct(2) NOT_POSSIBLE correct(1) 99999
            ringsIn(0) 1 ifComparers(2,1,0) 1 alarm(0,0) 99999
            """,
            """
            set(99998,9999,0)
            100 x correct(999)
            correct(97) run(1) 1 alarm(0,0) 109997 count(9) 0 ringsIn(0) NONE
            """);
        EDGES.edge("A TICK", "as long as that is at most the counter, it is missed once, and gets the time a period later again",
            "set(10,5,0) correct(13) run(1) 1 ring(0,2) 4 count(9) 0 alarm(0,0) 15",
            "set(10,5,0) correct(14) run(1) 1 ring(0,2) 5 count(9) 1 alarm(0,0) 20",
            "set(10,5,0) correct(18) run(1) 1 count(9) 1 alarm(0,0) 20",
            "set(10,5,0) correct(19) run(1) 1 ring(0,2) 10 count(9) 2 alarm(0,0) 25",
            "set(0,1,0) correct(999) run(1) 1 ring(0,2) 1000 count(9) 1000 alarm(0,0) 1001");
        EDGES.edge("A TICK", "An alarm without one is not set any more.",
            "set(2,0,0) set(2,1,0) run(2) 2 alarm(0,0) UNKNOWN alarm(1,0) 3 count(2) 1 count(3) 2",
            "set(2,0,0) correct(9) run(1) 1 count(9) 0 cancel(0) UNKNOWN");
    }

    private static void whenShared() {
        EDGES.edge("SHARING OUT", "behind each act that sets, changes or removes alarms, or changes the comparers, the window or the counter",
            "set(5,0,0) alarm(0,3) 0",
            "text(5;6) setAll() 2 alarm(0,3) 0 alarm(1,3) 1",
            "setComparers(1) set(5,0,0) set(6,0,0) alarm(1,3) NONE cancel(0) 1 alarm(1,3) 0",
            "setComparers(1) set(5,0,0) set(6,0,0) move(0,7) 5 alarm(1,3) 0 alarm(0,3) NONE",
            "setComparers(1) set(5,0,0) set(6,0,0) setComparers(2) 1 alarm(1,3) 1",
            "setComparers(1) set(5,0,0) set(6,0,0) setWindow(1) 0 alarm(1,3) 0");
        EDGES.edge("SHARING OUT", "As long as any alarm has no comparer: let a be the first of these, in their order.",
            """
            setComparers(1) set(5,0,0) set(9,0,0) set(7,0,0) set(7,0,1) cancel(0) 3 alarm(3,3) 0 alarm(2,3) 0 alarm(1,3) NONE
            """,
            """
            setComparers(1) setWindow(20) set(5,0,0) set(30,0,0) set(40,0,0) set(50,0,0) cancel(0) 3 comparer(0,1) 3
            count(4) 0
            """);
        EDGES.edge("SHARING OUT", "Otherwise no more is shared out (nobody behind a is looked at).",
            "setComparers(1) set(5,0,0) set(6,0,0) set(7,0,0) count(4) 2 count(10) 1 count(11) 0 comparer(0,3) 0");
    }

    private static void joining() {
        EDGES.edge("SHARING OUT", "the greatest less the least is at most the window, a joins the first such one",
            "setWindow(5) set(10,0,0) set(15,0,0) alarm(1,3) 0 set(16,0,0) alarm(2,3) 1",
            "setWindow(5) set(15,0,0) set(10,0,0) alarm(1,3) 0 set(9,0,0) alarm(2,3) 1",
            "setWindow(5) set(10,0,0) set(15,0,0) set(12,0,0) alarm(2,3) 0 comparer(0,1) 3",
            "setWindow(5) set(13,0,0) set(15,0,0) set(18,0,0) alarm(2,3) 0 set(19,0,0) alarm(3,3) 1",
            "setWindow(5) set(10,0,0) set(15,0,0) setWindow(4) set(12,0,0) alarm(2,3) 1 comparer(0,1) 2",
            "setWindow(5) set(10,0,0) set(20,0,0) set(15,0,0) alarm(2,3) 0 comparer(1,1) 1");
        EDGES.edge("SHARING OUT", "its count becomes the greatest of the times of its alarms (it does not have to be loading anew by that)",
            "setWindow(5) setLoading(4) set(10,0,0) run(1) set(15,0,0) comparer(0,0) 15 comparer(0,2) 3 count(10) 1",
            "setWindow(5) setLoading(4) set(10,0,0) run(4) set(7,0,0) comparer(0,0) 10 comparer(0,2) 0 count(10) 1",
            "setWindow(5) set(10,0,0) set(15,0,0) set(12,0,0) comparer(0,0) 15");
        EDGES.edge("SHARING OUT", "First, if there is a loaded comparer",
            "set(10,0,0) set(10,0,0) alarm(1,3) 0 count(5) 1 set(11,0,0) alarm(2,3) 1 set(11,0,0) alarm(3,3) 1",
            "set(0,0,0) alarm(0,3) 0 comparer(0,0) 0 comparer(1,0) NONE");
    }

    private static void loadingFreeOnes() {
        EDGES.edge("SHARING OUT", "Otherwise, if a comparer is free, the lowest one is loaded for a",
            """
            setComparers(4) set(10,0,0) alarm(0,3) 0 set(20,0,0) alarm(1,3) 1 set(30,0,0) alarm(2,3) 2 set(40,0,0)
            alarm(3,3) 3
            """,
            """
            setComparers(3) set(10,0,0) set(20,0,0) set(30,0,0) cancel(1) cancel(0) set(15,0,0) alarm(3,3) 0 set(5,0,0)
            alarm(4,3) 1
            """,
            "set(30,0,0) set(20,0,0) count(5) 0 cancel(0) set(40,0,0) alarm(2,3) 0 count(11) 0");
        EDGES.edge("SHARING OUT", "its count is a's time, and it has to be loading for as many ticks as the loading",
            "set(12,0,0) comparer(0,0) 12 comparer(0,2) 0 count(10) 1",
            "setLoading(9) set(12,0,0) comparer(0,0) 12 comparer(0,2) 9 comparer(1,2) 0");
    }

    private static void takingOver() {
        EDGES.edge("SHARING OUT", "of the comparers that have the greatest count, the one with the lowest number is taken over",
            "setComparers(3) set(10,0,0) set(30,0,0) set(20,0,0) set(5,0,0) alarm(3,3) 1 alarm(1,3) NONE",
            "setComparers(3) set(10,0,0) set(20,0,0) set(30,0,0) set(5,0,0) alarm(3,3) 2 alarm(2,3) NONE",
            """
            setWindow(5) set(10,0,0) set(20,0,0) set(15,0,0) move(0,25) move(2,30) setWindow(4)
            set(25,0,0) comparer(0,0) 25 comparer(1,0) 25 set(1,0,0) alarm(4,3) 0 alarm(3,3) NONE comparer(1,1) 2
            """);
        EDGES.edge("SHARING OUT", "is taken over, if its count is greater than a's time",
            "setComparers(1) set(10,0,0) set(11,0,0) alarm(1,3) NONE set(9,0,0) alarm(2,3) 0 count(11) 1",
            "setComparers(1) set(10,0,0) set(9,0,0) alarm(1,3) 0 alarm(0,3) NONE count(11) 1",
            """
            setComparers(1) setWindow(5) set(15,0,0) set(20,0,0) setWindow(4)
            set(20,0,0) alarm(2,3) NONE count(11) 0 set(19,0,0) count(11) 1 alarm(0,3) 0 alarm(3,3) 0 alarm(1,3) NONE
            """);
        EDGES.edge("SHARING OUT", "its alarms have none any more, and it is loaded for a, as a free one",
            """
            setComparers(1) setWindow(2) setLoading(5) set(20,0,0) set(22,0,0) run(5) comparer(0,2) 0
            set(10,0,0) alarm(0,3) NONE alarm(1,3) NONE comparer(0,0) 10 comparer(0,1) 1 comparer(0,2) 5
            count(10) 2 count(11) 1 count(4) 2
            """,
            "setComparers(1) setWindow(3) set(20,0,0) set(23,0,0) set(18,0,0) alarm(0,3) 0 alarm(1,3) NONE comparer(0,0) 20",
            """
            setComparers(1) setWindow(7) set(3,0,0) set(10,0,0) setWindow(0)
            set(4,0,0) count(11) 2 count(10) 3 alarm(0,3) 0 alarm(2,3) NONE alarm(1,3) NONE
            """);
    }

    private static void howManyStates() {
        EDGES.edge("HISTORY", "A history of at most 4 states is kept; when one more is recorded, the oldest one is dropped",
            "count(16) 0 run(1) count(16) 1 run(1) run(1) run(1) count(16) 4 run(1) count(16) 4",
            "4 x run(1)\nundo() 3 undo() 2 undo() 1 undo() 0 count(0) 0 undo() NONE",
            "5 x run(1)\nundo() 3 undo() 2 undo() 1 undo() 0 count(0) 1 undo() NONE count(0) 1",
            "9 x run(1)\nundo() 3 count(0) 8 run(5) count(16) 4 undo() 3 count(0) 8 undo() 2 undo() 1 undo() 0 count(0) 5");
        EDGES.edge("HISTORY", "undo() removes and restores the latest one",
            "run(3) run(4) undo() 1 count(0) 3 undo() 0 count(0) 0 undo() NONE",
            "set(9,4,2) cancel(0) 0 undo() 1 alarm(0,0) 9 alarm(0,1) 4 alarm(0,2) 2 undo() 0 alarm(0,0) UNKNOWN");
    }

    private static void states() {
        EDGES.edge("HISTORY", "There is one snapshot, empty at first.",
            "restore() NONE run(3) restore() NONE",
            "keep() 0 run(3) keep() 3 run(4) restore() 3 run(9) restore() 3");
        EDGES.edge("HISTORY", "A state is everything but the text, the history and the snapshot.",
            "text(12;3) run(1) text(4) undo() 0 count(17) 1 setAll() 1 alarm(0,0) 4",
            "text(12;3) keep() text(4) restore() 0 count(17) 1 setAll() 1 alarm(0,0) 4",
            "run(1) keep() 1 undo() 0 restore() 1 count(0) 1",
            "run(1) run(1) keep() 2 run(1) restore() 2 count(16) 4 undo() 3 count(0) 3",
            "set(9,0,0) 0 undo() 0 set(8,0,0) 0 count(3) 1",
            "set(5,9,1) set(4,8,2) undo() 1 at(0) 0 alarm(0,0) 5 alarm(0,1) 9 alarm(0,2) 1 alarm(0,3) 0 alarm(1,0) UNKNOWN");
        EDGES.edge("HISTORY", "A state is everything",
            """
            set(1,1,0) correct(5) run(1) 1 count(7) 5 undo() 2 count(6) 0 count(7) 0 count(8) 0 count(9) 0 alarm(0,5) 0
            alarm(0,6) NONE
            """,
            """
            setComparers(1) set(5,0,0) set(4,0,0) count(10) 2 undo() 2 count(10) 1 count(11) 0 comparer(0,0) 5
            comparer(0,3) 0
            """,
            "set(1,1,0) run(8) run(3) undo() 2 ring(0,1) 8 ring(7,1) 1 ring(8,1) NONE",
            "set(1,1,0) run(8) run(9) undo() 2 ring(0,1) 8 ring(3,1) 5 ring(4,1) 4 ring(7,1) 1",
            """
            setDrift(3) setWindow(4) setLoading(5) keep() setDrift(0) setWindow(0) setLoading(0) restore() 0 count(13) 4
            count(14) 5 count(15) 3
            """,
            "setLoading(3) set(5,0,0) run(2) 0 comparer(0,2) 1 undo() 2 comparer(0,2) 3 run(2) 0 comparer(0,2) 1",
            "setWindow(5) set(20,0,0) set(16,0,0) undo() 2 set(24,0,0) alarm(1,3) 0 comparer(0,0) 24");
    }
}
