import java.util.Random;

/** Long runs of calls, drawn from fixed seeds: the class and the model answer alike. */
public final class ModelTests {
    private static final int CALLS = 512;
    private static final int DUMP_CALLS = 230;
    private static final String SIGNS = "0123456789;;/!";

    private final Checks checks = new Checks("ModelTests");
    private final Random random;
    private final SharedComparers chip = new SharedComparers();
    private final Model model = new Model();
    private final int seed;
    private int calls = 0;
    /** How far ahead alarms are set, how long periods and runs are. */
    private final int reach;
    private final int longest;
    private final int mostTicks;
    private boolean isRight = true;

    private ModelTests(int seed) {
        this.seed = seed;
        random = new Random(seed);
        reach = new int[] {3, 12, 40, 300, 3000}[seed % 5];
        longest = new int[] {2, 9, 30, 9999}[seed / 5 % 4];
        mostTicks = new int[] {2, 6, 40, 1000}[seed / 20 % 4];
    }

    public static void main(String[] args) {
        Checks runs = new Checks("ModelTests");
        for (int seed = 0; seed < 1600; seed++) {
            runs.holds("the run of seed " + seed, new ModelTests(seed).isLike());
        }
        runs.close();
    }

    private boolean isLike() {
        if (seed % 7 == 0) {
            goNearTheEnd();
        }
        while (calls < CALLS - DUMP_CALLS && isRight) {
            one();
        }
        dump();
        return isRight;
    }

    private void same(String call, int got, int want) {
        calls++;
        if (got != want && isRight) {
            isRight = false;
            checks.due("seed " + seed + ", call " + calls + ", " + call, got, want);
        }
    }

    private void goNearTheEnd() {
        for (int i = 0; i < 100; i++) {
            same("correct(999)", chip.correct(999), model.correct(999));
        }
    }

    private int between(int least, int most) {
        return least + random.nextInt(most - least + 1);
    }

    private int wild(int least, int most) {
        int kind = random.nextInt(40);
        if (kind == 0) {
            return least - 1;
        }
        if (kind == 1) {
            return most + 1;
        }
        if (kind == 2) {
            return random.nextInt();
        }
        return kind < 6 ? random.nextBoolean() ? least : most : between(least, most);
    }

    private int someTime() {
        int counter = model.count(0);
        int kind = random.nextInt(30);
        if (kind == 0) {
            return wild(0, 99999);
        }
        return counter + between(kind == 1 ? -3 : 0, reach);
    }

    private int someAlarm() {
        int set = model.count(2);
        if (set > 0 && random.nextInt(12) > 0) {
            return model.at(random.nextInt(set));
        }
        return wild(0, model.count(3) + 2);
    }

    private void one() {
        int kind = random.nextInt(100);
        if (kind < 30) {
            alarms(kind);
        } else if (kind < 55) {
            chip(kind);
        } else if (kind < 67) {
            texts(kind);
        } else if (kind < 75) {
            history(kind);
        } else {
            told(kind);
        }
    }

    private void alarms(int kind) {
        if (kind < 20) {
            int time = someTime();
            int period = random.nextBoolean() ? 0 : wild(0, longest);
            int rank = wild(0, 3);
            same("set(" + time + ", " + period + ", " + rank + ")", chip.set(time, period, rank), model.set(time, period, rank));
        } else if (kind < 25) {
            int alarm = someAlarm();
            same("cancel(" + alarm + ")", chip.cancel(alarm), model.cancel(alarm));
        } else {
            int alarm = someAlarm();
            int time = random.nextInt(5) == 0 ? model.alarm(alarm, 0) : someTime();
            same("move(" + alarm + ", " + time + ")", chip.move(alarm, time), model.move(alarm, time));
        }
    }

    private void chip(int kind) {
        if (kind < 33) {
            int many = wild(1, 4);
            same("setComparers(" + many + ")", chip.setComparers(many), model.setComparers(many));
        } else if (kind < 36) {
            int counts = wild(0, 20);
            same("setWindow(" + counts + ")", chip.setWindow(counts), model.setWindow(counts));
        } else if (kind < 38) {
            int ticks = wild(0, 9);
            same("setLoading(" + ticks + ")", chip.setLoading(ticks), model.setLoading(ticks));
        } else if (kind < 40) {
            int drift = random.nextBoolean() ? between(-4, 4) : wild(-999, 999);
            same("setDrift(" + drift + ")", chip.setDrift(drift), model.setDrift(drift));
        } else if (kind < 43) {
            int by = random.nextInt(3) > 0 ? between(-reach / 2 - 1, reach / 2 + 1) : wild(-999, 999);
            same("correct(" + by + ")", chip.correct(by), model.correct(by));
        } else {
            int ticks = wild(1, mostTicks);
            same("run(" + ticks + ")", chip.run(ticks), model.run(ticks));
        }
    }

    private void texts(int kind) {
        if (kind == 55) {
            same("clearText()", chip.clearText(), model.clearText());
        } else if (kind < 58) {
            typeList();
            same("setAll()", chip.setAll(), model.setAll());
        } else {
            type(random.nextInt(40) == 0 ? (char) random.nextInt(65536) : SIGNS.charAt(random.nextInt(SIGNS.length())));
            same("setAll()", chip.setAll(), model.setAll());
        }
    }

    private void typeList() {
        same("clearText()", chip.clearText(), model.clearText());
        int many = between(1, 3);
        for (int i = 0; i < many; i++) {
            String one = (i > 0 ? ";" : "") + someTime() + (random.nextBoolean() ? "/" + between(1, longest) : "")
                + (random.nextBoolean() ? "!" + between(1, 3) : "");
            for (char sign : one.toCharArray()) {
                type(sign);
            }
        }
    }

    private void type(char sign) {
        same("type(" + (int) sign + ")", chip.type(sign), model.type(sign));
    }

    private void history(int kind) {
        if (kind < 71) {
            same("undo()", chip.undo(), model.undo());
        } else if (kind < 73) {
            same("keep()", chip.keep(), model.keep());
        } else {
            same("restore()", chip.restore(), model.restore());
        }
    }

    private void told(int kind) {
        if (kind < 80) {
            int alarm = someAlarm();
            int what = wild(0, 6);
            same("alarm(" + alarm + ", " + what + ")", chip.alarm(alarm, what), model.alarm(alarm, what));
        } else if (kind < 85) {
            int comparer = wild(0, 3);
            int what = wild(0, 3);
            same("comparer(" + comparer + ", " + what + ")", chip.comparer(comparer, what), model.comparer(comparer, what));
        } else if (kind < 88) {
            int place = wild(0, model.count(2));
            same("at(" + place + ")", chip.at(place), model.at(place));
        } else if (kind < 90) {
            int alarm = someAlarm();
            same("ringsIn(" + alarm + ")", chip.ringsIn(alarm), model.ringsIn(alarm));
        } else if (kind < 92) {
            int many = wild(1, 4);
            int ticks = random.nextInt(8) == 0 ? wild(1, 500) : between(1, 40);
            int what = wild(0, 3);
            same("ifComparers(" + many + ", " + ticks + ", " + what + ")", chip.ifComparers(many, ticks, what), model.ifComparers(many, ticks, what));
        } else if (kind < 93) {
            int ticks = random.nextInt(8) == 0 ? wild(1, 500) : between(1, 40);
            same("fewest(" + ticks + ")", chip.fewest(ticks), model.fewest(ticks));
        } else if (kind < 96) {
            int back = wild(0, 8);
            int what = wild(0, 3);
            same("ring(" + back + ", " + what + ")", chip.ring(back, what), model.ring(back, what));
        } else {
            int what = wild(0, 17);
            same("count(" + what + ")", chip.count(what), model.count(what));
        }
    }

    /** All that can be told, so that nothing that a run left wrong stays hidden. */
    private void dump() {
        for (int what = 0; what <= 17; what++) {
            same("count(" + what + ") at the end", chip.count(what), model.count(what));
        }
        for (int place = 0; place < model.count(2); place++) {
            int alarm = model.at(place);
            same("at(" + place + ") at the end", chip.at(place), alarm);
            for (int what = 0; what <= 6; what++) {
                same("alarm(" + alarm + ", " + what + ") at the end", chip.alarm(alarm, what), model.alarm(alarm, what));
            }
        }
        for (int comparer = 0; comparer <= 4; comparer++) {
            for (int what = 0; what <= 3; what++) {
                same("comparer(" + comparer + ", " + what + ") at the end", chip.comparer(comparer, what), model.comparer(comparer, what));
            }
        }
        for (int back = 0; back < 8; back++) {
            for (int what = 0; what <= 3; what++) {
                same("ring(" + back + ", " + what + ") at the end", chip.ring(back, what), model.ring(back, what));
            }
        }
    }
}
