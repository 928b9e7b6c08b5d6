import java.io.IOException;
import java.nio.file.Files;
import java.nio.file.Path;
import java.util.List;

/**
 * Asks what single sentences of the document name as bounds, each by runs of calls of its own. Of every run it is asked
 * too that the calls that are refused, and those that only tell, change nothing.
 */
final class Edges {
    private static final Path DOCUMENT = Path.of("../shared/DOC.md");

    private final Checks checks;
    private final String document;

    Edges(String name) {
        checks = new Checks(name);
        document = readDocument();
    }

    // Where the document does not lie beside the project, only that the sentences stand in it is not asked.
    private static String readDocument() {
        try {
            return Files.isReadable(DOCUMENT) ? plain(Files.readString(DOCUMENT)) : "";
        } catch (IOException e) {
            return "";
        }
    }

    private static String plain(String text) {
        return text.replace("`", "").replaceAll("\\s+", " ");
    }

    /** The sentence (of the promise or the term that is named) and the runs, each on a new object. */
    void edge(String where, String sentence, String... runs) {
        if (!document.isEmpty()) {
            checks.holds(where + ": the document says \"" + sentence + "\"", document.contains(plain(sentence)));
        }
        for (String run : runs) {
            play(where + ": \"" + sentence + "\"", Script.read(run));
        }
    }

    private void play(String sentence, List<Script.Call> calls) {
        checks.holds(sentence + ": at most 512 calls", Script.callsOf(calls) + Told.MOST_CALLS <= Script.MOST_CALLS);
        checks.holds(sentence + ": an answer is asked", calls.stream().anyMatch(Script.Call::isAsked));
        SharedComparers x = new SharedComparers();
        for (int i = 0; i < calls.size(); i++) {
            Script.Call call = calls.get(i);
            int got = call.on(x);
            if (call.isAsked()) {
                checks.due(sentence + ": call " + (i + 1) + ", " + call.shown(), got, call.due());
            }
        }
        whatChangesNothing(sentence, calls);
    }

    private void whatChangesNothing(String sentence, List<Script.Call> calls) {
        String before = null;
        for (int i = 0; i < calls.size(); i++) {
            Script.Call call = calls.get(i);
            if (!call.isRefused() && !call.onlyTells()) {
                before = null;
                continue;
            }
            if (before == null) {
                before = Told.everything(calls.subList(0, i));
            }
            String after = Told.everything(calls.subList(0, i + 1));
            checks.holds(sentence + ": call " + (i + 1) + ", " + call.shown() + ", changes nothing", before.equals(after));
            before = after;
        }
    }

    void close() {
        checks.close();
    }
}
