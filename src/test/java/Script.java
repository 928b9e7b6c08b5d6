import java.util.ArrayList;
import java.util.List;

/**
 * A run of calls, read from a text: "set(9,0,0) 0 cancel(0)" is a call that has to answer 0, and one whose answer is not
 * asked. A line that begins with "20 x" is made 20 times. text(1;2) empties the text and types 1;2; type takes a
 * character's number.
 */
final class Script {
    /** What later calls of an object answer is free. */
    static final int MOST_CALLS = 512;

    private static final List<String> TELLING =
        List.of("alarm", "comparer", "at", "ringsIn", "ifComparers", "fewest", "ring", "count");

    record Call(String shown, String name, String inside, boolean isAsked, int due) {
        boolean isRefused() {
            return isAsked && due <= SharedComparers.UNKNOWN;
        }

        boolean onlyTells() {
            return TELLING.contains(name);
        }

        int on(SharedComparers x) {
            if (name.equals("text")) {
                return typeAnew(x, inside);
            }
            int[] given = numbers();
            switch (name) {
                case "set": return x.set(given[0], given[1], given[2]);
                case "setAll": return x.setAll();
                case "cancel": return x.cancel(given[0]);
                case "move": return x.move(given[0], given[1]);
                case "setComparers": return x.setComparers(given[0]);
                case "setWindow": return x.setWindow(given[0]);
                case "setLoading": return x.setLoading(given[0]);
                case "setDrift": return x.setDrift(given[0]);
                case "correct": return x.correct(given[0]);
                case "run": return x.run(given[0]);
                case "type": return x.type((char) given[0]);
                case "clearText": return x.clearText();
                case "undo": return x.undo();
                case "keep": return x.keep();
                case "restore": return x.restore();
                default: return tell(x, given);
            }
        }

        private int tell(SharedComparers x, int[] given) {
            switch (name) {
                case "alarm": return x.alarm(given[0], given[1]);
                case "comparer": return x.comparer(given[0], given[1]);
                case "at": return x.at(given[0]);
                case "ringsIn": return x.ringsIn(given[0]);
                case "ifComparers": return x.ifComparers(given[0], given[1], given[2]);
                case "fewest": return x.fewest(given[0]);
                case "ring": return x.ring(given[0], given[1]);
                case "count": return x.count(given[0]);
                default: throw new IllegalArgumentException("no call of the class: " + shown);
            }
        }

        private int[] numbers() {
            if (inside.isEmpty()) {
                return new int[0];
            }
            String[] parts = inside.split(",");
            int[] numbers = new int[parts.length];
            for (int i = 0; i < parts.length; i++) {
                numbers[i] = Integer.parseInt(parts[i]);
            }
            return numbers;
        }

        private int calls() {
            return name.equals("text") ? 1 + inside.length() : 1;
        }
    }

    private Script() {
    }

    static List<Call> read(String text) {
        List<Call> calls = new ArrayList<>();
        for (String line : text.strip().split("\n")) {
            String once = line.strip();
            int times = 1;
            if (once.matches("\\d+ x .*")) {
                times = Integer.parseInt(once.substring(0, once.indexOf(' ')));
                once = once.substring(once.indexOf(" x ") + 3);
            }
            for (int i = 0; i < times; i++) {
                readLine(once.split(" +"), calls);
            }
        }
        return calls;
    }

    private static void readLine(String[] parts, List<Call> calls) {
        for (int i = 0; i < parts.length; i++) {
            String shown = parts[i];
            int open = shown.indexOf('(');
            if (open <= 0 || !shown.endsWith(")")) {
                throw new IllegalArgumentException("no call: " + shown);
            }
            boolean isAsked = i + 1 < parts.length && parts[i + 1].indexOf('(') < 0;
            int due = isAsked ? answer(parts[i + 1]) : 0;
            calls.add(new Call(shown, shown.substring(0, open), shown.substring(open + 1, shown.length() - 1), isAsked, due));
            if (isAsked) {
                i++;
            }
        }
    }

    private static int answer(String shown) {
        switch (shown) {
            case "UNKNOWN": return SharedComparers.UNKNOWN;
            case "BAD_VALUE": return SharedComparers.BAD_VALUE;
            case "FULL": return SharedComparers.FULL;
            case "NOT_POSSIBLE": return SharedComparers.NOT_POSSIBLE;
            case "NONE": return SharedComparers.NONE;
            default: return Integer.parseInt(shown);
        }
    }

    static int typeAnew(SharedComparers x, String text) {
        x.clearText();
        int length = 0;
        for (int i = 0; i < text.length(); i++) {
            length = x.type(text.charAt(i));
        }
        return length;
    }

    static int callsOf(List<Call> calls) {
        int made = 0;
        for (Call call : calls) {
            made += call.calls();
        }
        return made;
    }

    static SharedComparers played(List<Call> calls) {
        SharedComparers x = new SharedComparers();
        for (Call call : calls) {
            call.on(x);
        }
        return x;
    }
}
