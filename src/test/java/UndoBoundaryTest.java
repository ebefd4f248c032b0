import java.util.ArrayList;
import java.util.List;

/** Boundary cases of the saved states and the snapshot, and of promises 15 to 17. */
public final class UndoBoundaryTest extends Relays {

    private static final String SAVES = "Each method that is marked \"undoable\" and does not throw an exception saves the"
        + " state from before it (also if it changes nothing)";
    private static final String ALL_BUT = "all, also what is counted so far, but the buffer, the snapshot and the saved"
        + " states.";
    private static final String SIX = "At most 6 states are saved; the oldest one is dropped first.";

    /** That the call saves one state, and that undo() brings back all that was but the buffer. */
    private static void undoable(Step start, Step call) {
        OutboxRelay x = after(inTurn(start, OutboxRelay::clearBuffer));
        int saved = x.count(11);
        call.on(x);
        same("saved states", x.count(11), saved + 1);
        sameStates(inTurn(start, call, OutboxRelay::undo), start);
    }

    /** That all is the same but for the buffer, in what can be seen and in what comes of it. */
    private static void sameStates(Step start, Step other) {
        Step one = inTurn(start, OutboxRelay::clearBuffer);
        Step two = inTurn(other, OutboxRelay::clearBuffer);
        same("what is, and what was", storyOf(after(one)), storyOf(after(two)));
        same("what will be", futureOf(after(one)), futureOf(after(two)));
    }

    /** The digests when what is open is committed, ticks pass, and rows are swept. */
    private static List<Object> futureOf(OutboxRelay x) {
        List<Object> future = new ArrayList<>();
        for (String orders : new String[] {"t1", "t2", "c0", "c1", "c2", "c3", "t1", "t4", "t40", "s"}) {
            obeyed(x, orders);
            future.add(x.digest());
        }
        return future;
    }

    /** Second effects, repeats, effects out of order, lost rows, a memory that forgot, and messages on their way. */
    private static void isWorn(OutboxRelay x) {
        with(NUMBERS, 1, BY_MARK, 0, MEMORY, 1, WAIT, 1).on(x);
        obeyed(x, "b;b;w00=1;w10=2;w13=4;c1;t6;c0;s");
        obeyed(x, "b;b;w01=3;w02=5;w12=6;w11=7;c1;t4");
        makeRoom(x);
    }

    /** Leaves the state as it is, but four saved ones of the six. */
    private static void makeRoom(OutboxRelay x) {
        x.keep();
        told(3, i -> x.undo());
        x.goBack();
    }

    /** That the call saves nothing, with few and with many saved states. */
    private static void savesNothing(Step call) {
        for (Step start : new Step[] {Relays::isBusy, Relays::isBusyLong}) {
            OutboxRelay x = after(start);
            OutboxRelay y = after(start);
            call.on(x);
            same("saved states", x.count(11), y.count(11));
            x.undo();
            y.undo();
            same("ticks of the latest one", x.count(0), y.count(0));
            same("settings of it", told(7, x::setting), told(7, y::setting));
        }
    }

    // Terms

    @Sentence(promise = 2, says = "Begins a transaction, at the lowest place without one. Undoable.")
    static void beginIsUndoable() {
        undoable(Relays::isBusy, OutboxRelay::begin);
        undoable(Relays::isNew, OutboxRelay::begin);
    }

    @Sentence(promise = 3, says = "Writes a row in a transaction. Undoable.")
    static void writeIsUndoable() {
        undoable(Relays::isBusy, x -> x.write(1, 3, 99));
    }

    @Sentence(promise = 4, says = "Commits a transaction. Undoable.")
    static void commitIsUndoable() {
        undoable(Relays::isBusy, x -> x.commit(1));
    }

    @Sentence(promise = 4, says = "Commits a transaction. Undoable.")
    static void commitWithoutRowsIsUndoable() {
        undoable(x -> obeyed(x, "b;b;d0"), x -> x.commit(1));
    }

    @Sentence(promise = 5, says = "Drops a transaction. Undoable.")
    static void dropIsUndoable() {
        undoable(Relays::isBusy, x -> x.drop(0));
    }

    @Sentence(promise = 6, says = "Changes what a receiver wants. Undoable.")
    static void wantIsUndoable() {
        undoable(Relays::isBusy, x -> x.want(2, 0));
    }

    @Sentence(promise = 7, says = "Lets ticks pass. Undoable, as one call.")
    static void passIsUndoableAsOneCall() {
        undoable(Relays::isBusy, x -> x.pass(1));
        undoable(Relays::isBusy, x -> x.pass(99));
    }

    @Sentence(promise = 8, says = "Undoable.")
    static void loseIsUndoable() {
        undoable(Relays::isBusy, OutboxRelay::lose);
    }

    @Sentence(promise = 9, says = "Sweeps. Undoable.")
    static void sweepIsUndoable() {
        undoable(x -> obeyed(x, "b;w00=1;c0;t5"), OutboxRelay::sweep);
    }

    @Sentence(promise = 10, says = "Changes a setting. Undoable.")
    static void setIsUndoable() {
        for (int setting = 1; setting < 7; setting++) {
            int changed = setting;
            undoable(Relays::isBusy, x -> x.set(changed, changed == BY_MARK ? 0 : 8));
        }
        undoable(Relays::isNew, x -> x.set(NUMBERS, 1));
    }

    @Sentence(promise = 14, says = "Undoable, as one call, also if none is done.")
    static void obeyIsUndoableAsOneCall() {
        undoable(OutboxRelay::keep, x -> obeyed(x, "b;w00=1;w03=2;c0;b;b;d0;t7;s"));
    }

    @Sentence(promise = 14, says = "Undoable, as one call, also if none is done.")
    static void obeyIsUndoableAlsoIfNoneIsDone() {
        undoable(Relays::isBusy, x -> same("done", obeyed(x, "c3;t9"), 0));
    }

    @Sentence(promise = 16, says = "Goes back to the snapshot, which stays. Undoable.")
    static void goBackIsUndoable() {
        undoable(Relays::isBusy, OutboxRelay::goBack);
    }

    @Sentence(says = SAVES)
    static void whatChangesNothingIsSavedToo() {
        undoable(Relays::isNew, OutboxRelay::sweep);
        undoable(Relays::isBusy, OutboxRelay::sweep);
        undoable(Relays::isBusy, x -> x.want(2, 7));
        undoable(Relays::isBusy, x -> x.set(LOSS, 5));
        undoable(Relays::isNew, x -> x.set(NUMBERS, 0));
        undoable(OutboxRelay::keep, OutboxRelay::goBack);
    }

    @Sentence(says = SAVES)
    static void whatIsNotMarkedSavesNothing() {
        savesNothing(x -> x.append('b'));
        savesNothing(OutboxRelay::clearBuffer);
        savesNothing(OutboxRelay::firstError);
        savesNothing(OutboxRelay::keep);
        savesNothing(x -> x.row(0, 7));
        savesNothing(x -> x.transaction(0, 0));
        savesNothing(x -> x.receiver(0, 13));
        savesNothing(x -> x.message(0, 0));
        savesNothing(x -> x.count(11));
        savesNothing(x -> x.setting(0));
    }

    @Sentence(says = SAVES)
    static void whatWouldBeSavesNothing() {
        savesNothing(OutboxRelay::drainIn);
        savesNothing(x -> x.ifPassed(99, 0, 0));
        savesNothing(x -> x.skips(0, 0));
        savesNothing(OutboxRelay::slowest);
        savesNothing(OutboxRelay::goodShare);
        savesNothing(OutboxRelay::meanBatch);
        savesNothing(OutboxRelay::digest);
    }

    @Sentence(says = SAVES)
    static void whatThrowsSavesNothing() {
        refusedWhenBusy(ARGUMENT, "pass", x -> x.pass(0));
        refusedWhenBusy(ARGUMENT, "obey", OutboxRelay::obey);
        refusedWhenBusy(INDEX, "commit", x -> x.commit(2));
        refusedWhenBusy(STATE, "set", x -> x.set(NUMBERS, 1));
    }

    @Sentence(says = ALL_BUT)
    static void whatIsCountedSoFarIsBack() {
        OutboxRelay x = after(Relays::isBusy);
        List<Integer> counts = told(12, x::count);
        List<Object> receivers = List.of(receiverOf(x, 0), receiverOf(x, 1), receiverOf(x, 2));
        double share = x.goodShare();
        float batch = x.meanBatch();
        obeyed(x, "c0;c1;b;b;d1;t99;s;t9");
        same("all counts are others", told(10, x::count).equals(counts), false);
        x.undo();
        same("counts", told(12, x::count), counts);
        same("receivers", List.of(receiverOf(x, 0), receiverOf(x, 1), receiverOf(x, 2)), receivers);
        same("shares", List.of(x.goodShare(), x.meanBatch()), List.of(share, batch));
    }

    @Sentence(says = ALL_BUT)
    static void whatIsCountedOfReceiversIsBack() {
        OutboxRelay x = after(UndoBoundaryTest::isWorn);
        List<Integer> none = List.of(0, 0, 0);
        for (int what : new int[] {2, 3, 4, 6, 7, 11}) {
            same("there is something of number " + what, ofReceivers(x, what).equals(none), false);
        }
        undoable(UndoBoundaryTest::isWorn, obeying("c0;t9;s;t9"));
        undoable(UndoBoundaryTest::isWorn, passing(9));
    }

    @Sentence(says = ALL_BUT)
    static void rowsOfTransactionsAreBack() {
        Step open = obeying("b;b;w01=11;w02=22;w13=33");
        undoable(open, obeying("d0;d1;b;w03=1;w00=2;w00=3;b;w10=4;b;w21=5"));
        undoable(open, obeying("c0;c1;b;b;w13=9;w10=9;w02=8;w03=8;t9;s"));
        undoable(UndoBoundaryTest::isWorn, obeying("d0;b;b;w03=1;w13=1;w03=1"));
    }

    @Sentence(says = ALL_BUT)
    static void rowsThatAreKeptAreBack() {
        Step kept = inTurn(with(NUMBERS, 1, ROWS, 1), obeying("b;b;b;w00=1;w11=2;w22=3;w13=4;c1;t3"));
        undoable(kept, obeying("c0;c2;t2;d1"));
        undoable(kept, obeying("c2;b;w10=9;c1;c0;t30;s"));
        Step other = inTurn(kept, OutboxRelay::undo, obeying("b;b;b;w23=50;w12=60;c2;w11=70;c1;t4"));
        sameStates(inTurn(other, OutboxRelay::undo), inTurn(kept, OutboxRelay::undo));
    }

    @Sentence(says = ALL_BUT)
    static void rowsAreBackAlsoIfOthersWereCommittedInTheirPlace() {
        Step kept = inTurn(OutboxRelay::keep, obeying("b;w01=11;w02=22;c0;t1"));
        Step other = inTurn(kept, OutboxRelay::goBack, obeying("b;b;w13=5;w00=33;w00=44;w00=55;c0;t3"));
        sameStates(inTurn(other, OutboxRelay::undo, OutboxRelay::undo), kept);
    }

    @Sentence(says = ALL_BUT)
    static void aFullMemoryIsBack() {
        Step full = inTurn(with(BY_MARK, 0, MEMORY, 20, ROWS, 8), x -> commitMany(x, 20), passing(20),
            UndoBoundaryTest::makeRoom);
        same("remembered", after(full).receiver(2, 2), 20);
        undoable(full, obeying("b;w00=1;w00=1;c0;t5"));
    }

    @Sentence(says = ALL_BUT)
    static void messagesAreBack() {
        Step sent = inTurn(with(TICKS, 4, WAIT, 2, ROWS, 2, LOSS, 7), obeying("b;w00=1;w01=2;w02=3;c0;t4"));
        undoable(sent, passing(1));
        undoable(sent, passing(99));
        undoable(sent, OutboxRelay::lose);
    }

    @Sentence(says = ALL_BUT)
    static void theBufferIsNotSaved() {
        OutboxRelay x = new OutboxRelay();
        type(x, "b");
        x.pass(1);
        type(x, ";s");
        x.undo();
        same("what was typed behind it stays", x.clearBuffer(), 3);
        x.pass(1);
        type(x, "b;t");
        x.keep();
        x.clearBuffer();
        x.goBack();
        same("and what was cleared does not come back", x.clearBuffer(), 0);
    }

    @Sentence(says = ALL_BUT)
    static void theSnapshotIsNotSaved() {
        OutboxRelay x = new OutboxRelay();
        x.pass(1);
        x.pass(1);
        x.keep();
        x.undo();
        same("ticks of the snapshot, taken behind the state", x.goBack(), 2);
        sameDigest("there is a snapshot, where there was none then",
            inTurn(passing(1), OutboxRelay::keep, OutboxRelay::undo), true, "");
    }

    @Sentence(says = ALL_BUT)
    static void theSavedStatesAreNotSaved() {
        OutboxRelay x = new OutboxRelay();
        x.pass(1);
        x.pass(2);
        x.keep();
        x.pass(4);
        same("back to two saved states more", x.goBack() * 10 + x.count(11), 34);
        same("undone, one less", x.undo(), 3);
        same("ticks", x.count(0), 7);
    }

    @Sentence(says = SIX)
    static void sixStatesAreSaved() {
        OutboxRelay x = new OutboxRelay();
        List<Integer> saved = told(8, i -> {
            x.pass(1);
            return x.count(11);
        });
        same("saved states", saved, List.of(1, 2, 3, 4, 5, 6, 6, 6));
    }

    @Sentence(says = SIX)
    static void theOldestIsDroppedFirst() {
        OutboxRelay x = new OutboxRelay();
        told(7, i -> x.pass(1));
        List<Integer> ticks = new ArrayList<>();
        for (int i = 0; i < 6; i++) {
            x.undo();
            ticks.add(x.count(0));
        }
        same("ticks", ticks, List.of(6, 5, 4, 3, 2, 1));
        checks.thrown("a seventh", STATE, x::undo);
    }

    @Sentence(says = SIX)
    static void goBackDropsTheOldestToo() {
        OutboxRelay x = new OutboxRelay();
        x.keep();
        told(6, i -> x.pass(1));
        x.goBack();
        same("six", x.count(11), 6);
        told(5, i -> x.undo());
        same("the last one is of one tick", x.undo() * 10 + x.count(0), 1);
    }

    // Promise 15

    @Sentence(promise = 15,
        says = "Takes a snapshot of the state (of all that undo() would restore), in place of the one that was.")
    static void aSnapshotInPlaceOfNoneAndOfAnother() {
        sameDigest("none", Relays::isNew, false, "");
        sameDigest("one", OutboxRelay::keep, true, "");
        OutboxRelay x = after(OutboxRelay::keep);
        x.pass(3);
        x.keep();
        x.pass(3);
        same("the later one", x.goBack(), 3);
        told(6, i -> x.goBack());
        same("the earlier one is nowhere", x.goBack(), 3);
    }

    @Sentence(promise = 15,
        says = "Takes a snapshot of the state (of all that undo() would restore), in place of the one that was.")
    static void allOfTheStateIsInTheSnapshot() {
        OutboxRelay x = after(Relays::isBusyLong);
        x.keep();
        long before = x.digest();
        x.undo();
        x.undo();
        obeyed(x, "c0;c1;b;w03=3;t99");
        type(x, "b;w0");
        x.want(0, 3);
        x.set(TICKS, 9);
        told(4, i -> x.sweep());
        x.goBack();
        same("it is as it was", x.digest(), before);
    }

    @Sentence(promise = 15, says = "Returns how many ticks passed so far.")
    static void keepReturnsTheTicks() {
        OutboxRelay x = new OutboxRelay();
        same("none", x.keep(), 0);
        x.pass(99);
        same("as many as passed", x.keep(), 99);
        x.undo();
        same("not those that are undone", x.keep(), 0);
    }

    // Promise 16

    @Sentence(promise = 16, says = "Goes back to the snapshot, which stays. Undoable.")
    static void theSnapshotStays() {
        OutboxRelay x = new OutboxRelay();
        x.pass(2);
        x.keep();
        for (int i = 0; i < 3; i++) {
            x.pass(5);
            same("time " + i, x.goBack(), 2);
        }
        same("also when one is undone", x.undo() * 10 + x.goBack(), 52);
    }

    @Sentence(promise = 16, says = "Returns how many ticks passed so far then.")
    static void goBackReturnsTheTicks() {
        OutboxRelay x = new OutboxRelay();
        x.keep();
        x.pass(7);
        same("of the snapshot", x.goBack(), 0);
        x.undo();
        x.keep();
        x.undo();
        same("also if they are more", x.goBack(), 7);
    }

    @Sentence(promise = 16, says = "Throws `IllegalStateException` if there is no snapshot")
    static void goBackWithoutASnapshot() {
        refusedAfter(Relays::isNew, STATE, "at first", OutboxRelay::goBack);
        refusedAfter(x -> told(7, i -> x.pass(1)), STATE, "later", OutboxRelay::goBack);
    }

    // Promise 17

    @Sentence(promise = 17, says = "Restores the latest saved state, and drops it.")
    static void undoRestoresTheLatest() {
        OutboxRelay x = new OutboxRelay();
        x.pass(1);
        x.pass(2);
        x.undo();
        same("before the second", x.count(0), 1);
        x.undo();
        same("before the first", x.count(0), 0);
    }

    @Sentence(promise = 17, says = "Returns how many saved states are left.")
    static void undoReturnsHowManyAreLeft() {
        OutboxRelay x = after(Relays::isBusyLong);
        same("five to none", told(6, i -> x.undo()), List.of(5, 4, 3, 2, 1, 0));
        same("saved states", x.count(11), 0);
    }

    @Sentence(promise = 17, says = "Throws `IllegalStateException` if there is none")
    static void undoWithoutASavedState() {
        refusedAfter(Relays::isNew, STATE, "at first", OutboxRelay::undo);
        refusedAfter(x -> {
            x.keep();
            x.pass(1);
            x.undo();
        }, STATE, "when all are undone", OutboxRelay::undo);
        refusedAfter(x -> {
            x.keep();
            type(x, "b");
        }, STATE, "with a snapshot alone", OutboxRelay::undo);
    }

    public static void main(String[] args) {
        Sentences.run(UndoBoundaryTest.class);
    }
}
