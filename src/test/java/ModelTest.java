import java.util.Random;

/** Long runs of calls on the program and on NaiveOutbox; every answer must be the same. */
public final class ModelTest {

    /** What later calls of an object answer is free. */
    private static final int CALLS = 512;
    private static final String[] PARTS = {"b", "w00=5", "w11=99", "w23=0", "w31=10", "c0", "c1", "c2", "c3", "d0",
        "t1", "t7", "t12", "s", "t0", "w04=1", "w1", "x", "w00=07", "d", ";"};

    // What a call may be, and how often it is in runs of each style.
    private static final int BEGIN = 0;
    private static final int WRITE = 1;
    private static final int COMMIT = 2;
    private static final int DROP = 3;
    private static final int PASS = 4;
    private static final int LOSE = 5;
    private static final int SWEEP = 6;
    private static final int SET = 7;
    private static final int WANT = 8;
    private static final int TEXT = 9;
    private static final int SNAPSHOT = 10;
    private static final int LOOK = 11;
    private static final int FILL = 12;
    private static final int[][] WEIGHTS = {
        {10, 20, 10, 5, 15, 3, 5, 10, 5, 5, 5, 10, 0},
        {2, 5, 2, 1, 15, 1, 10, 1, 2, 0, 1, 1, 40},
        {10, 20, 15, 1, 60, 10, 5, 5, 15, 0, 2, 5, 0},
        {5, 10, 5, 1, 20, 2, 5, 5, 10, 5, 5, 5, 5},
    };

    private final Checks checks;
    private final Random random;
    private final int run;
    private final OutboxRelay relay = new OutboxRelay();
    private final NaiveOutbox naive = new NaiveOutbox();
    private int calls = 0;

    private ModelTest(Checks checks, int run) {
        this.checks = checks;
        this.run = run;
        this.random = new Random(run);
    }

    private interface Asked {
        Object answer();
    }

    private static Object answerOf(Asked asked) {
        try {
            return asked.answer();
        } catch (RuntimeException e) {
            return e.getClass();
        }
    }

    private void same(String call, Asked got, Asked due) {
        if (calls >= CALLS) {
            return;
        }
        calls++;
        checks.same("run " + run + ": " + call, answerOf(got), answerOf(due));
    }

    private int below(int bound) {
        return random.nextInt(bound);
    }

    /** Mostly within the bounds, sometimes just outside them or far off. */
    private int within(int least, int most) {
        switch (below(40)) {
            case 0:
                return least - 1;
            case 1:
                return most + 1;
            case 2:
                return below(2) == 0 ? Integer.MIN_VALUE : Integer.MAX_VALUE;
            default:
                return least + below(most - least + 1);
        }
    }

    private void run() {
        int style = run % WEIGHTS.length;
        if (style > 0) {
            choosesSettings(style);
        }
        while (calls < CALLS && checks.wrong() < 20) {
            call(kindOf(WEIGHTS[style]));
            if (below(style == 1 ? 12 : 4) == 0) {
                same("digest()", relay::digest, naive::digest);
            }
        }
    }

    /** Settings with which rows go through soon in style 1, and are sent again soon, and come late, in style 2. */
    private void choosesSettings(int style) {
        setTo(0, below(2));
        setTo(1, 1 + below(style == 1 ? 2 : 9));
        setTo(2, style == 1 ? 8 : 1 + below(3));
        setTo(3, 1 + below(style == 3 ? 9 : 2));
        setTo(4, below(2) * (2 + below(8)));
        setTo(5, below(style == 2 ? 4 : 2) == 0 ? 1 : 0);
        setTo(6, 1 + below(3));
    }

    private int kindOf(int[] weights) {
        int sum = 0;
        for (int weight : weights) {
            sum += weight;
        }
        int left = below(sum);
        int kind = 0;
        while (left >= weights[kind]) {
            left -= weights[kind];
            kind++;
        }
        return kind;
    }

    private void call(int kind) {
        switch (kind) {
            case BEGIN -> same("begin()", relay::begin, naive::begin);
            case WRITE -> writes();
            case COMMIT -> commitAt(within(0, 3));
            case DROP -> drops();
            case PASS -> passes();
            case LOSE -> same("lose()", relay::lose, naive::lose);
            case SWEEP -> same("sweep()", relay::sweep, naive::sweep);
            case SET -> sets();
            case WANT -> wants();
            case TEXT -> texts();
            case SNAPSHOT -> snapshots();
            case LOOK -> looks();
            case FILL -> fills();
        }
    }

    /** Commits a transaction with up to six rows, if there is a place for one. */
    private void fills() {
        same("begin()", relay::begin, naive::begin);
        int place = below(4);
        int rows = naive.transaction(place, 0);
        for (int i = rows; rows >= 0 && i < 6 - below(2); i++) {
            writeAt(place, below(4), below(100));
        }
        commitAt(place);
    }

    private void commitAt(int place) {
        same("commit(" + place + ")", () -> relay.commit(place), () -> naive.commit(place));
    }

    private void passes() {
        int ticks = below(6) == 0 ? within(1, 99) : 1 + below(4);
        same("pass(" + ticks + ")", () -> relay.pass(ticks), () -> naive.pass(ticks));
    }

    private void writes() {
        writeAt(within(0, 3), within(0, 3), within(0, 99));
    }

    private void writeAt(int place, int topic, int value) {
        same("write(" + place + ", " + topic + ", " + value + ")",
            () -> relay.write(place, topic, value), () -> naive.write(place, topic, value));
    }

    private void drops() {
        int place = within(0, 3);
        same("drop(" + place + ")", () -> relay.drop(place), () -> naive.drop(place));
    }

    private void wants() {
        int receiver = within(0, 2);
        int topics = below(3) == 0 ? 15 : within(0, 15);
        same("want(" + receiver + ", " + topics + ")",
            () -> relay.want(receiver, topics), () -> naive.want(receiver, topics));
    }

    private void sets() {
        int setting = within(0, 6);
        int[] most = {1, 9, 8, 20, 9, 1, 20};
        int value = setting >= 0 && setting < 7 ? within(setting == 0 || setting == 5 ? 0 : 1, most[setting]) : 1;
        if (setting == 4 && below(2) == 0) {
            value = 0;
        }
        setTo(setting, value);
    }

    private void setTo(int setting, int value) {
        same("set(" + setting + ", " + value + ")", () -> relay.set(setting, value), () -> naive.set(setting, value));
    }

    private void texts() {
        if (below(3) == 0) {
            same("clearBuffer()", relay::clearBuffer, naive::clearBuffer);
        }
        int parts = 1 + below(10);
        for (int i = 0; i < parts; i++) {
            String part = PARTS[below(below(3) == 0 ? PARTS.length : 14)];
            String text = i == 0 ? part : ";" + part;
            for (int j = 0; j < text.length(); j++) {
                int code = below(200) == 0 ? within(33, 126) : text.charAt(j);
                same("append(" + code + ")", () -> relay.append(code), () -> naive.append(code));
            }
            same("firstError()", relay::firstError, naive::firstError);
        }
        same("obey()", relay::obey, naive::obey);
    }

    private void snapshots() {
        switch (below(6)) {
            case 0:
                same("keep()", relay::keep, naive::keep);
                break;
            case 1:
                same("goBack()", relay::goBack, naive::goBack);
                break;
            default:
                same("undo()", relay::undo, naive::undo);
                break;
        }
    }

    private void looks() {
        int first = within(0, 8);
        int what = within(0, 14);
        same("row(" + first + ", " + what + ")", () -> relay.row(first, what), () -> naive.row(first, what));
        same("transaction(" + first + ", " + what + ")",
            () -> relay.transaction(first, what), () -> naive.transaction(first, what));
        same("receiver(" + first + ", " + what + ")",
            () -> relay.receiver(first, what), () -> naive.receiver(first, what));
        same("message(" + first + ", " + what + ")", () -> relay.message(first, what), () -> naive.message(first, what));
        same("count(" + what + ")", () -> relay.count(what), () -> naive.count(what));
        same("setting(" + what + ")", () -> relay.setting(what), () -> naive.setting(what));
        same("drainIn()", relay::drainIn, naive::drainIn);
        int ticks = within(1, 99);
        int receiver = within(0, 2);
        int gain = within(0, 3);
        same("ifPassed(" + ticks + ", " + receiver + ", " + gain + ")",
            () -> relay.ifPassed(ticks, receiver, gain), () -> naive.ifPassed(ticks, receiver, gain));
        same("skips(" + first + ", " + receiver + ")",
            () -> relay.skips(first, receiver), () -> naive.skips(first, receiver));
        same("slowest()", relay::slowest, naive::slowest);
        same("goodShare()", relay::goodShare, naive::goodShare);
        same("meanBatch()", relay::meanBatch, naive::meanBatch);
    }

    public static void main(String[] args) {
        int runs = args.length == 0 ? 300 : Integer.parseInt(args[0]);
        Checks checks = new Checks("ModelTest");
        for (int run = 1; run <= runs; run++) {
            new ModelTest(checks, run).run();
        }
        checks.close();
    }
}
