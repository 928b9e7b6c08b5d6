import java.util.List;

/** All that can be told of a chip. */
final class Told {
    /** Everything asks an object no more often than this. */
    static final int MOST_CALLS = 240;

    private static final int MOST_UNDOS = 5;

    private Told() {
    }

    /** What a run of calls leaves: now, in the history, in the snapshot and in the text. */
    static String everything(List<Script.Call> calls) {
        StringBuilder told = new StringBuilder();
        // Each on an object of its own, since an object is used for 512 calls alone.
        for (int undos = 0; undos <= MOST_UNDOS; undos++) {
            SharedComparers x = Script.played(calls);
            for (int i = 0; i < undos; i++) {
                told.append(x.undo()).append(' ');
            }
            told.append(now(x)).append('\n');
        }
        SharedComparers restored = Script.played(calls);
        told.append(restored.restore()).append(' ').append(now(restored)).append('\n');
        SharedComparers listed = Script.played(calls);
        told.append(listed.setAll()).append(' ').append(now(listed)).append('\n');
        return told.toString();
    }

    /** What is told of the state as it is now, one behind the other. */
    static String now(SharedComparers x) {
        StringBuilder told = new StringBuilder();
        for (int what = 0; what <= 17; what++) {
            told.append(x.count(what)).append(' ');
        }
        for (int place = 0; place < x.count(2); place++) {
            int alarm = x.at(place);
            told.append(alarm).append(':');
            for (int what = 0; what <= 6; what++) {
                told.append(x.alarm(alarm, what)).append(' ');
            }
        }
        for (int comparer = 0; comparer < x.count(12); comparer++) {
            for (int what = 0; what <= 3; what++) {
                told.append(x.comparer(comparer, what)).append(' ');
            }
        }
        for (int back = 0; back < 8; back++) {
            for (int what = 0; what <= 3; what++) {
                told.append(x.ring(back, what)).append(' ');
            }
        }
        return told.toString();
    }
}
