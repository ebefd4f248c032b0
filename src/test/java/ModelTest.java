import java.util.Random;

/** Long runs of calls on the program and on NaiveOutbox; every answer must be the same. */
public final class ModelTest {

    /** What later calls of an object answer is free. */
    private static final int CALLS = 512;
    private static final String[] PARTS = {"b", "w00=5", "w11=99", "w23=0", "w31=10", "c0", "c1", "c2", "c3", "d0",
        "t1", "t7", "t12", "s", "t0", "w04=1", "w1", "x", "w00=07", "d", ";"};

    private final Checks checks;
    private final Random random;
    private final int run;
    private final OutboxRelay relay = new OutboxRelay();
    private final NaiveOutbox naive = new NaiveOutbox();
    private int calls = 0;

    private ModelTest(Checks checks, int run) {
        this.checks = checks;
        this.run = run;
        this.random = new Random(run);
    }

    private interface Asked {
        Object answer();
    }

    private static Object answerOf(Asked asked) {
        try {
            return asked.answer();
        } catch (RuntimeException e) {
            return e.getClass();
        }
    }

    private void same(String call, Asked got, Asked due) {
        if (calls >= CALLS) {
            return;
        }
        calls++;
        checks.same("run " + run + ": " + call, answerOf(got), answerOf(due));
    }

    private int below(int bound) {
        return random.nextInt(bound);
    }

    /** Mostly within the bounds, sometimes just outside them or far off. */
    private int within(int least, int most) {
        switch (below(40)) {
            case 0:
                return least - 1;
            case 1:
                return most + 1;
            case 2:
                return below(2) == 0 ? Integer.MIN_VALUE : Integer.MAX_VALUE;
            default:
                return least + below(most - least + 1);
        }
    }

    private void run() {
        int style = below(4);
        while (calls < CALLS && checks.wrong() < 20) {
            call(style);
            if (below(4) == 0) {
                same("digest()", relay::digest, naive::digest);
            }
        }
    }

    private void call(int style) {
        switch (below(20)) {
            case 0, 1:
                same("begin()", relay::begin, naive::begin);
                break;
            case 2, 3, 4, 5:
                writes();
                break;
            case 6, 7:
                int place = within(0, 3);
                same("commit(" + place + ")", () -> relay.commit(place), () -> naive.commit(place));
                break;
            case 8:
                drops();
                break;
            case 9, 10, 11:
                int ticks = below(6) == 0 ? within(1, 99) : 1 + below(4);
                same("pass(" + ticks + ")", () -> relay.pass(ticks), () -> naive.pass(ticks));
                break;
            case 12:
                if (style == 0) {
                    same("lose()", relay::lose, naive::lose);
                } else {
                    same("sweep()", relay::sweep, naive::sweep);
                }
                break;
            case 13, 14:
                sets();
                break;
            case 15:
                wants();
                break;
            case 16:
                texts();
                break;
            case 17:
                snapshots();
                break;
            default:
                looks();
                break;
        }
    }

    private void writes() {
        int place = within(0, 3);
        int topic = within(0, 3);
        int value = within(0, 99);
        same("write(" + place + ", " + topic + ", " + value + ")",
            () -> relay.write(place, topic, value), () -> naive.write(place, topic, value));
    }

    private void drops() {
        int place = within(0, 12);
        same("drop(" + place + ")", () -> relay.drop(place), () -> naive.drop(place));
        same("sweep()", relay::sweep, naive::sweep);
    }

    private void wants() {
        int receiver = within(0, 2);
        int topics = below(3) == 0 ? 15 : within(0, 15);
        same("want(" + receiver + ", " + topics + ")",
            () -> relay.want(receiver, topics), () -> naive.want(receiver, topics));
    }

    private void sets() {
        int setting = within(0, 6);
        int[] most = {1, 9, 8, 20, 9, 1, 20};
        int value = setting >= 0 && setting < 7 ? within(setting == 0 || setting == 5 ? 0 : 1, most[setting]) : 1;
        if (setting == 4 && below(2) == 0) {
            value = 0;
        }
        int chosen = value;
        same("set(" + setting + ", " + chosen + ")",
            () -> relay.set(setting, chosen), () -> naive.set(setting, chosen));
    }

    private void texts() {
        if (below(3) == 0) {
            same("clearBuffer()", relay::clearBuffer, naive::clearBuffer);
        }
        int parts = 1 + below(10);
        for (int i = 0; i < parts; i++) {
            String part = PARTS[below(below(3) == 0 ? PARTS.length : 14)];
            String text = i == 0 ? part : ";" + part;
            for (int j = 0; j < text.length(); j++) {
                int code = below(200) == 0 ? within(33, 126) : text.charAt(j);
                same("append(" + code + ")", () -> relay.append(code), () -> naive.append(code));
            }
            same("firstError()", relay::firstError, naive::firstError);
        }
        same("obey()", relay::obey, naive::obey);
    }

    private void snapshots() {
        switch (below(6)) {
            case 0:
                same("keep()", relay::keep, naive::keep);
                break;
            case 1:
                same("goBack()", relay::goBack, naive::goBack);
                break;
            default:
                same("undo()", relay::undo, naive::undo);
                break;
        }
    }

    private void looks() {
        int first = within(0, 8);
        int what = within(0, 14);
        same("row(" + first + ", " + what + ")", () -> relay.row(first, what), () -> naive.row(first, what));
        same("transaction(" + first + ", " + what + ")",
            () -> relay.transaction(first, what), () -> naive.transaction(first, what));
        same("receiver(" + first + ", " + what + ")",
            () -> relay.receiver(first, what), () -> naive.receiver(first, what));
        same("message(" + first + ", " + what + ")", () -> relay.message(first, what), () -> naive.message(first, what));
        same("count(" + what + ")", () -> relay.count(what), () -> naive.count(what));
        same("setting(" + what + ")", () -> relay.setting(what), () -> naive.setting(what));
        same("drainIn()", relay::drainIn, naive::drainIn);
        int ticks = within(1, 99);
        int receiver = within(0, 2);
        int gain = within(0, 3);
        same("ifPassed(" + ticks + ", " + receiver + ", " + gain + ")",
            () -> relay.ifPassed(ticks, receiver, gain), () -> naive.ifPassed(ticks, receiver, gain));
        same("skips(" + first + ", " + receiver + ")",
            () -> relay.skips(first, receiver), () -> naive.skips(first, receiver));
        same("slowest()", relay::slowest, naive::slowest);
        same("goodShare()", relay::goodShare, naive::goodShare);
        same("meanBatch()", relay::meanBatch, naive::meanBatch);
    }

    public static void main(String[] args) {
        int runs = args.length == 0 ? 600 : Integer.parseInt(args[0]);
        Checks checks = new Checks("ModelTest");
        for (int run = 1; run <= runs; run++) {
            new ModelTest(checks, run).run();
        }
        checks.close();
    }
}
