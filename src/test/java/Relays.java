import java.util.ArrayList;
import java.util.List;

/** Ways to bring a relay where a test wants it, and to look at it; the tests stand below this class. */
abstract class Relays {

    static final Class<?> INDEX = IndexOutOfBoundsException.class;
    static final Class<?> ARGUMENT = IllegalArgumentException.class;
    static final Class<?> STATE = IllegalStateException.class;
    static final int[] FAR = {Integer.MIN_VALUE, Integer.MAX_VALUE};

    static final int NUMBERS = 0;
    static final int TICKS = 1;
    static final int ROWS = 2;
    static final int WAIT = 3;
    static final int LOSS = 4;
    static final int BY_MARK = 5;
    static final int MEMORY = 6;

    static final Checks checks = new Checks("");

    /** What is done with a relay. */
    interface Step {
        void on(OutboxRelay x);
    }

    static void same(String what, Object got, Object due) {
        checks.same(what, got, due);
    }

    static void refused(OutboxRelay x, String what, Class<?> due, Checks.Call call) {
        checks.refused(x, what, due, call);
    }

    // Where a test begins.

    static void isNew(OutboxRelay x) { }

    /** Two open transactions, messages on their way, a snapshot, a text, and four saved states. */
    static void isBusy(OutboxRelay x) {
        obeyed(x, "b;b;w00=5;w13=7;w01=9;c0;t1");
        x.keep();
        x.set(LOSS, 5);
        obeyed(x, "b;w02=8;t2");
        x.want(2, 7);
        type(x, "b;w0");
    }

    /** As isBusy, and with as many saved states as can be. */
    static void isBusyLong(OutboxRelay x) {
        isBusy(x);
        x.set(WAIT, 3);
        x.pass(1);
        x.pass(1);
    }

    /** One after the other. */
    static Step inTurn(Step... steps) {
        return x -> {
            for (Step step : steps) {
                step.on(x);
            }
        };
    }

    static Step passing(int ticks) {
        return x -> x.pass(ticks);
    }

    static Step obeying(String text) {
        return x -> obeyed(x, text);
    }

    static OutboxRelay after(Step start) {
        OutboxRelay x = new OutboxRelay();
        start.on(x);
        return x;
    }

    /** Sets settings to values, told one after the other. */
    static Step with(int... settings) {
        return x -> {
            for (int i = 0; i + 1 < settings.length; i += 2) {
                x.set(settings[i], settings[i + 1]);
            }
        };
    }

    static OutboxRelay relayWith(int... settings) {
        return after(with(settings));
    }

    /** A relay with these settings whose receivers 1 and 2 want nothing. */
    static OutboxRelay loneWith(int... settings) {
        OutboxRelay x = relayWith(settings);
        x.want(1, 0);
        x.want(2, 0);
        return x;
    }

    // What is done more than once.

    /** Commits a transaction of rows, told as topic and value, one after the other. */
    static void commitRows(OutboxRelay x, int... topicsAndValues) {
        int place = x.begin();
        for (int i = 0; i + 1 < topicsAndValues.length; i += 2) {
            x.write(place, topicsAndValues[i], topicsAndValues[i + 1]);
        }
        x.commit(place);
    }

    /** Commits as many rows of topic 0 and value 0, in transactions that are full but for the last. */
    static void commitMany(OutboxRelay x, int rows) {
        for (int left = rows; left > 0; left -= 6) {
            commitRows(x, new int[2 * Math.min(left, 6)]);
        }
    }

    static void wantNothing(OutboxRelay x) {
        for (int r = 0; r < 3; r++) {
            x.want(r, 0);
        }
    }

    static void type(OutboxRelay x, String text) {
        for (int i = 0; i < text.length(); i++) {
            x.append(text.charAt(i));
        }
    }

    static int obeyed(OutboxRelay x, String text) {
        x.clearBuffer();
        type(x, text);
        return x.obey();
    }

    // What is refused.

    /** That the call is refused behind this start, and that nothing can be seen of it then. */
    static void refusedAfter(Step start, Class<?> due, String what, Step call) {
        OutboxRelay asked = after(start);
        checks.thrown(what, due, () -> call.on(asked));
        same(what + " changes nothing", storyOf(asked), storyOf(after(start)));
    }

    /** That the call is refused with few and with many saved states. */
    static void refusedWhenBusy(Class<?> due, String what, Step call) {
        refusedAfter(Relays::isBusy, due, what, call);
        refusedAfter(Relays::isBusyLong, due, what, call);
    }

    /** That the call is refused, on a new relay too. */
    static void refusedAlways(Class<?> due, String what, Step call) {
        refusedAfter(Relays::isNew, due, what, call);
        refusedWhenBusy(due, what, call);
    }

    /** A call with one argument that a test chooses. */
    interface Chosen {
        void on(OutboxRelay x, int argument);
    }

    /** That the call is refused for the arguments just beside these bounds, and far off. */
    static void refusedBeside(int least, int most, Class<?> due, String what, Chosen call) {
        for (int argument : new int[] {least - 1, most + 1, FAR[0], FAR[1]}) {
            refusedWhenBusy(due, what + " with " + argument, x -> call.on(x, argument));
        }
    }

    /** The digest as it is, behind each undo(), and behind goBack() at last. */
    static List<Object> storyOf(OutboxRelay x) {
        List<Object> story = new ArrayList<>();
        story.add(x.digest());
        for (int i = 0; i < 7 && x.count(11) > 0; i++) {
            x.undo();
            story.add(x.digest());
        }
        try {
            x.goBack();
            story.add(x.digest());
        } catch (IllegalStateException e) {
            story.add("no snapshot");
        }
        return story;
    }

    // Looks.

    /** What is told of something, number by number. */
    interface Told {
        int number(int what);
    }

    static List<Integer> told(int kinds, Told told) {
        List<Integer> numbers = new ArrayList<>();
        for (int what = 0; what < kinds; what++) {
            numbers.add(told.number(what));
        }
        return numbers;
    }

    static List<Integer> rowOf(OutboxRelay x, int rank) {
        return told(8, what -> x.row(rank, what));
    }

    static List<Integer> receiverOf(OutboxRelay x, int receiver) {
        return told(14, what -> x.receiver(receiver, what));
    }

    static List<Integer> messageOf(OutboxRelay x, int rank) {
        return told(5, what -> x.message(rank, what));
    }

    /** The same number of all rows that are kept, by rank. */
    static List<Integer> ofRows(OutboxRelay x, int what) {
        return told(x.count(3), rank -> x.row(rank, what));
    }

    /** The same number of all messages on their way, by rank. */
    static List<Integer> ofMessages(OutboxRelay x, int what) {
        return told(x.count(7), rank -> x.message(rank, what));
    }

    /** The same number of the three receivers. */
    static List<Integer> ofReceivers(OutboxRelay x, int what) {
        return told(3, receiver -> x.receiver(receiver, what));
    }

    /** Where a relay comes from: the same one each time, or another one that is just like it. */
    interface Source {
        OutboxRelay relay();
    }

    /** The values of the digest, as told by the other calls, but for the memory, which is the same for each receiver. */
    static List<Long> digestValues(Source source, boolean kept, String text, int... memory) {
        List<Long> values = new ArrayList<>();
        addAll(values, told(12, source.relay()::count));
        addAll(values, told(7, source.relay()::setting));
        int rows = source.relay().count(3);
        for (int rank = 0; rank < rows; rank++) {
            addAll(values, rowOf(source.relay(), rank));
        }
        for (int i = 0; i < 4; i++) {
            int place = i;
            addAll(values, told(3, what -> source.relay().transaction(place, what)));
            addAll(values, told(3, receiver -> source.relay().skips(place, receiver)));
        }
        for (int i = 0; i < 3; i++) {
            int receiver = i;
            addAll(values, receiverOf(source.relay(), receiver));
            addAll(values, told(memory.length, j -> memory[j]));
            addAll(values, told(4, what -> source.relay().ifPassed(10, receiver, what)));
        }
        int messages = source.relay().count(7);
        for (int rank = 0; rank < messages; rank++) {
            addAll(values, messageOf(source.relay(), rank));
        }
        OutboxRelay x = source.relay();
        values.add((long) x.drainIn());
        values.add((long) x.slowest());
        values.add(Double.doubleToLongBits(x.goodShare()));
        values.add((long) Float.floatToIntBits(x.meanBatch()));
        values.add(kept ? 1L : 0L);
        values.add((long) text.length());
        addAll(values, told(text.length(), text::charAt));
        return values;
    }

    private static void addAll(List<Long> values, List<Integer> more) {
        for (int value : more) {
            values.add((long) value);
        }
    }

    static long digestBySight(Source source, boolean kept, String text, int... memory) {
        long hash = 3623;
        for (long value : digestValues(source, kept, text, memory)) {
            hash = 31 * hash + value;
        }
        return hash;
    }

    /** That the digest is as told; each look is at another relay, as one has only so many calls. */
    static void sameDigest(String what, Step start, boolean kept, String text, int... memory) {
        same(what, after(start).digest(), digestBySight(() -> after(start), kept, text, memory));
    }
}
