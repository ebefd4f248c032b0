import java.util.ArrayList;
import java.util.List;

/** Boundary cases of an object as a whole: how many calls it takes, and that looks change nothing. */
public final class ObjectBoundaryTest extends Relays {

    private static final String CALLS = "An object is used for at most 512 calls after it has been made; what later calls"
        + " answer is free.";
    private static final String LOOKS = "Ahead of the calls `row`, `transaction`, `receiver`, `message`, `count`,"
        + " `setting` the interface says: ---- looks; nothing is changed.";
    private static final String WOULD_BE = "Ahead of the calls `drainIn`, `ifPassed`, `skips`, `slowest`, `goodShare`,"
        + " `meanBatch`, `digest` the interface says: ---- what would be; nothing is changed.";

    /** That a relay is behind these looks as one that was not looked at. */
    private static void changesNothing(Step looks) {
        for (Step start : List.<Step>of(Relays::isNew, Relays::isBusy, Relays::isBusyLong)) {
            same("story", storyOf(after(inTurn(start, looks))), storyOf(after(start)));
        }
    }

    private static List<Object> allThatWouldBe(OutboxRelay x) {
        List<Object> all = new ArrayList<>();
        all.add(x.drainIn());
        all.add(told(24, i -> x.ifPassed(i < 12 ? 1 : 99, i % 3, i / 3 % 4)));
        all.add(told(12, i -> x.skips(i / 3, i % 3)));
        all.add(x.slowest());
        all.add(x.goodShare());
        all.add(x.meanBatch());
        all.add(x.digest());
        return all;
    }

    @Sentence(says = CALLS)
    static void theLastCallTellsOfAllOthers() {
        OutboxRelay x = new OutboxRelay();
        told(511, i -> x.pass(99));
        same("ticks", x.count(0), 511 * 99);
    }

    @Sentence(says = CALLS)
    static void theLastCallIsDoneAsTheFirst() {
        OutboxRelay x = new OutboxRelay();
        told(511, i -> x.setting(0));
        same("the lowest place", x.begin(), 0);
    }

    @Sentence(says = CALLS)
    static void repeatsInAsManyTicksAsThereCanBe() {
        // Every second message is lost, and so every answer: row 0 is sent in each second tick for ever.
        OutboxRelay x = loneWith(LOSS, 2, TICKS, 1, WAIT, 2);
        commitRows(x, 0, 1);
        told(503, i -> x.pass(99));
        same("repeats at the 512th call", x.receiver(0, 5), (503 * 99 - 1) / 2 - 1);
    }

    @Sentence(says = LOOKS)
    static void looksChangeNothing() {
        changesNothing(x -> {
            told(x.count(3), rank -> rowOf(x, rank).size());
            told(12, i -> x.transaction(i / 3, i % 3));
            told(3, receiver -> receiverOf(x, receiver).size());
            told(x.count(7), rank -> messageOf(x, rank).size());
            told(12, x::count);
            told(7, x::setting);
        });
    }

    @Sentence(says = WOULD_BE)
    static void whatWouldBeChangesNothing() {
        changesNothing(ObjectBoundaryTest::allThatWouldBe);
    }

    @Sentence(says = WOULD_BE)
    static void whatWouldBeIsTheSameAgain() {
        OutboxRelay x = after(Relays::isBusyLong);
        List<Object> first = allThatWouldBe(x);
        same("once more", allThatWouldBe(x), first);
    }

    public static void main(String[] args) {
        Sentences.run(ObjectBoundaryTest.class);
    }
}
